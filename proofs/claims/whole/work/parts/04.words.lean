theorem lw1 {w : Cond} (h : w ∈ tables_1_1) : w ∈ lw_tbl := List.mem_append_right _ (List.mem_append_left _ h)
theorem lw2 {w : Cond} (h : w ∈ tables_1_2) : w ∈ lw_tbl := List.mem_append_right _ (List.mem_append_right _ (List.mem_append_left _ h))
theorem lw3 {w : Cond} (h : w ∈ tables_1_3) : w ∈ lw_tbl := List.mem_append_right _ (List.mem_append_right _ (List.mem_append_right _ (List.mem_append_left _ h)))
theorem lw4 {w : Cond} (h : w ∈ tables_1_4) : w ∈ lw_tbl := List.mem_append_right _ (List.mem_append_right _ (List.mem_append_right _ (List.mem_append_right _ (List.mem_append_left _ h))))
theorem lw5 {w : Cond} (h : w ∈ tables_1_5) : w ∈ lw_tbl := List.mem_append_right _ (List.mem_append_right _ (List.mem_append_right _ (List.mem_append_right _ (List.mem_append_right _ (List.mem_append_left _ h)))))
theorem lw6 {w : Cond} (h : w ∈ tables_1_6) : w ∈ lw_tbl := List.mem_append_right _ (List.mem_append_right _ (List.mem_append_right _ (List.mem_append_right _ (List.mem_append_right _ (List.mem_append_right _ (List.mem_append_left _ h))))))
theorem lw7 {w : Cond} (h : w ∈ tables_1_7) : w ∈ lw_tbl := List.mem_append_right _ (List.mem_append_right _ (List.mem_append_right _ (List.mem_append_right _ (List.mem_append_right _ (List.mem_append_right _ (List.mem_append_right _ (List.mem_append_left _ h)))))))
theorem lw8 {w : Cond} (h : w ∈ tables_1_8) : w ∈ lw_tbl := List.mem_append_right _ (List.mem_append_right _ (List.mem_append_right _ (List.mem_append_right _ (List.mem_append_right _ (List.mem_append_right _ (List.mem_append_right _ (List.mem_append_right _ (List.mem_append_left _ h))))))))
theorem lw9 {w : Cond} (h : w ∈ tables_1_9) : w ∈ lw_tbl := List.mem_append_right _ (List.mem_append_right _ (List.mem_append_right _ (List.mem_append_right _ (List.mem_append_right _ (List.mem_append_right _ (List.mem_append_right _ (List.mem_append_right _ (List.mem_append_right _ (h)))))))))
theorem lwp {w : Cond} (h : w ∈ k2_sels lw_privs) : w ∈ lw_tbl := List.mem_append_left _ h
theorem lay_X0 : ∀ w ∈ u_ws RX0 TX0 9, w ∈ lw_tbl := by
  intro w hw
  obtain ⟨k, hk, rfl⟩ := List.mem_map.mp hw
  have hk := List.mem_range.mp hk
  match k, hk with
  | 0, _ => exact lw2 (List.mem_of_getElem? (i := 130) (by decide +kernel))
  | 1, _ => exact lw2 (List.mem_of_getElem? (i := 132) (by decide +kernel))
  | 2, _ => exact lw2 (List.mem_of_getElem? (i := 134) (by decide +kernel))
  | 3, _ => exact lw2 (List.mem_of_getElem? (i := 136) (by decide +kernel))
  | 4, _ => exact lw2 (List.mem_of_getElem? (i := 138) (by decide +kernel))
  | 5, _ => exact lw2 (List.mem_of_getElem? (i := 140) (by decide +kernel))
  | 6, _ => exact lw2 (List.mem_of_getElem? (i := 142) (by decide +kernel))
  | 7, _ => exact lw2 (List.mem_of_getElem? (i := 144) (by decide +kernel))
  | 8, _ => exact lw2 (List.mem_of_getElem? (i := 146) (by decide +kernel))
  | k + 9, hk => exact absurd hk (by omega)
theorem cok_X0 : ClOK 0 (RX0, TX0, 9) := ⟨lay_X0, nmX0, tyX0_ok, by decide +kernel, lw2 (List.mem_of_getElem? (i := 114) (by decide +kernel)), lw1 (List.mem_of_getElem? (i := 11) (by decide +kernel)), by decide +kernel⟩
theorem lay_X1 : ∀ w ∈ u_ws RX1 TX1 10, w ∈ lw_tbl := by
  intro w hw
  obtain ⟨k, hk, rfl⟩ := List.mem_map.mp hw
  have hk := List.mem_range.mp hk
  match k, hk with
  | 0, _ => exact lw1 (List.mem_of_getElem? (i := 204) (by decide +kernel))
  | 1, _ => exact lw1 (List.mem_of_getElem? (i := 206) (by decide +kernel))
  | 2, _ => exact lw1 (List.mem_of_getElem? (i := 208) (by decide +kernel))
  | 3, _ => exact lw1 (List.mem_of_getElem? (i := 210) (by decide +kernel))
  | 4, _ => exact lw1 (List.mem_of_getElem? (i := 212) (by decide +kernel))
  | 5, _ => exact lw1 (List.mem_of_getElem? (i := 214) (by decide +kernel))
  | 6, _ => exact lw1 (List.mem_of_getElem? (i := 216) (by decide +kernel))
  | 7, _ => exact lw1 (List.mem_of_getElem? (i := 218) (by decide +kernel))
  | 8, _ => exact lw1 (List.mem_of_getElem? (i := 220) (by decide +kernel))
  | 9, _ => exact lw1 (List.mem_of_getElem? (i := 222) (by decide +kernel))
  | k + 10, hk => exact absurd hk (by omega)
theorem cok_X1 : ClOK 1 (RX1, TX1, 10) := ⟨lay_X1, nmX1, tyX1_ok, by decide +kernel, lw1 (List.mem_of_getElem? (i := 162) (by decide +kernel)), lw1 (List.mem_of_getElem? (i := 9) (by decide +kernel)), by decide +kernel⟩
theorem lay_X2 : ∀ w ∈ u_ws RX2 TX2 8, w ∈ lw_tbl := by
  intro w hw
  obtain ⟨k, hk, rfl⟩ := List.mem_map.mp hw
  have hk := List.mem_range.mp hk
  match k, hk with
  | 0, _ => exact lw2 (List.mem_of_getElem? (i := 234) (by decide +kernel))
  | 1, _ => exact lw2 (List.mem_of_getElem? (i := 236) (by decide +kernel))
  | 2, _ => exact lw2 (List.mem_of_getElem? (i := 238) (by decide +kernel))
  | 3, _ => exact lw3 (List.mem_of_getElem? (i := 0) (by decide +kernel))
  | 4, _ => exact lw3 (List.mem_of_getElem? (i := 2) (by decide +kernel))
  | 5, _ => exact lw3 (List.mem_of_getElem? (i := 4) (by decide +kernel))
  | 6, _ => exact lw3 (List.mem_of_getElem? (i := 6) (by decide +kernel))
  | 7, _ => exact lw3 (List.mem_of_getElem? (i := 8) (by decide +kernel))
  | k + 8, hk => exact absurd hk (by omega)
theorem cok_X2 : ClOK 2 (RX2, TX2, 8) := ⟨lay_X2, nmX2, tyX2_ok, by decide +kernel, lw2 (List.mem_of_getElem? (i := 215) (by decide +kernel)), lw1 (List.mem_of_getElem? (i := 14) (by decide +kernel)), by decide +kernel⟩
theorem lay_X3 : ∀ w ∈ u_ws RX3 TX3 8, w ∈ lw_tbl := by
  intro w hw
  obtain ⟨k, hk, rfl⟩ := List.mem_map.mp hw
  have hk := List.mem_range.mp hk
  match k, hk with
  | 0, _ => exact lw2 (List.mem_of_getElem? (i := 168) (by decide +kernel))
  | 1, _ => exact lw2 (List.mem_of_getElem? (i := 170) (by decide +kernel))
  | 2, _ => exact lw2 (List.mem_of_getElem? (i := 172) (by decide +kernel))
  | 3, _ => exact lw2 (List.mem_of_getElem? (i := 174) (by decide +kernel))
  | 4, _ => exact lw2 (List.mem_of_getElem? (i := 176) (by decide +kernel))
  | 5, _ => exact lw2 (List.mem_of_getElem? (i := 178) (by decide +kernel))
  | 6, _ => exact lw2 (List.mem_of_getElem? (i := 180) (by decide +kernel))
  | 7, _ => exact lw2 (List.mem_of_getElem? (i := 182) (by decide +kernel))
  | k + 8, hk => exact absurd hk (by omega)
theorem cok_X3 : ClOK 3 (RX3, TX3, 8) := ⟨lay_X3, nmX3, tyX3_ok, by decide +kernel, lw2 (List.mem_of_getElem? (i := 150) (by decide +kernel)), lw1 (List.mem_of_getElem? (i := 12) (by decide +kernel)), by decide +kernel⟩
theorem lay_X4 : ∀ w ∈ u_ws RX4 TX4 14, w ∈ lw_tbl := by
  intro w hw
  obtain ⟨k, hk, rfl⟩ := List.mem_map.mp hw
  have hk := List.mem_range.mp hk
  match k, hk with
  | 0, _ => exact lw1 (List.mem_of_getElem? (i := 123) (by decide +kernel))
  | 1, _ => exact lw1 (List.mem_of_getElem? (i := 125) (by decide +kernel))
  | 2, _ => exact lw1 (List.mem_of_getElem? (i := 127) (by decide +kernel))
  | 3, _ => exact lw1 (List.mem_of_getElem? (i := 129) (by decide +kernel))
  | 4, _ => exact lw1 (List.mem_of_getElem? (i := 131) (by decide +kernel))
  | 5, _ => exact lw1 (List.mem_of_getElem? (i := 133) (by decide +kernel))
  | 6, _ => exact lw1 (List.mem_of_getElem? (i := 135) (by decide +kernel))
  | 7, _ => exact lw1 (List.mem_of_getElem? (i := 137) (by decide +kernel))
  | 8, _ => exact lw1 (List.mem_of_getElem? (i := 139) (by decide +kernel))
  | 9, _ => exact lw1 (List.mem_of_getElem? (i := 141) (by decide +kernel))
  | 10, _ => exact lw1 (List.mem_of_getElem? (i := 143) (by decide +kernel))
  | 11, _ => exact lw1 (List.mem_of_getElem? (i := 145) (by decide +kernel))
  | 12, _ => exact lw1 (List.mem_of_getElem? (i := 147) (by decide +kernel))
  | 13, _ => exact lw1 (List.mem_of_getElem? (i := 149) (by decide +kernel))
  | k + 14, hk => exact absurd hk (by omega)
theorem cok_X4 : ClOK 4 (RX4, TX4, 14) := ⟨lay_X4, nmX4, tyX4_ok, by decide +kernel, lw1 (List.mem_of_getElem? (i := 49) (by decide +kernel)), lw1 (List.mem_of_getElem? (i := 3) (by decide +kernel)), by decide +kernel⟩
theorem lay_X5 : ∀ w ∈ u_ws RX5 TX5 16, w ∈ lw_tbl := by
  intro w hw
  obtain ⟨k, hk, rfl⟩ := List.mem_map.mp hw
  have hk := List.mem_range.mp hk
  match k, hk with
  | 0, _ => exact lw2 (List.mem_of_getElem? (i := 80) (by decide +kernel))
  | 1, _ => exact lw2 (List.mem_of_getElem? (i := 82) (by decide +kernel))
  | 2, _ => exact lw2 (List.mem_of_getElem? (i := 84) (by decide +kernel))
  | 3, _ => exact lw2 (List.mem_of_getElem? (i := 86) (by decide +kernel))
  | 4, _ => exact lw2 (List.mem_of_getElem? (i := 88) (by decide +kernel))
  | 5, _ => exact lw2 (List.mem_of_getElem? (i := 90) (by decide +kernel))
  | 6, _ => exact lw2 (List.mem_of_getElem? (i := 92) (by decide +kernel))
  | 7, _ => exact lw2 (List.mem_of_getElem? (i := 94) (by decide +kernel))
  | 8, _ => exact lw2 (List.mem_of_getElem? (i := 96) (by decide +kernel))
  | 9, _ => exact lw2 (List.mem_of_getElem? (i := 98) (by decide +kernel))
  | 10, _ => exact lw2 (List.mem_of_getElem? (i := 100) (by decide +kernel))
  | 11, _ => exact lw2 (List.mem_of_getElem? (i := 102) (by decide +kernel))
  | 12, _ => exact lw2 (List.mem_of_getElem? (i := 104) (by decide +kernel))
  | 13, _ => exact lw2 (List.mem_of_getElem? (i := 106) (by decide +kernel))
  | 14, _ => exact lw2 (List.mem_of_getElem? (i := 108) (by decide +kernel))
  | 15, _ => exact lw2 (List.mem_of_getElem? (i := 110) (by decide +kernel))
  | k + 16, hk => exact absurd hk (by omega)
theorem cok_X5 : ClOK 5 (RX5, TX5, 16) := ⟨lay_X5, nmX5, tyX5_ok, by decide +kernel, lw1 (List.mem_of_getElem? (i := 156) (by decide +kernel)), lw1 (List.mem_of_getElem? (i := 8) (by decide +kernel)), by decide +kernel⟩
theorem lay_X7 : ∀ w ∈ u_ws RX7 TX7 3, w ∈ lw_tbl := by
  intro w hw
  obtain ⟨k, hk, rfl⟩ := List.mem_map.mp hw
  have hk := List.mem_range.mp hk
  match k, hk with
  | 0, _ => exact lw1 (List.mem_of_getElem? (i := 39) (by decide +kernel))
  | 1, _ => exact lw1 (List.mem_of_getElem? (i := 41) (by decide +kernel))
  | 2, _ => exact lw1 (List.mem_of_getElem? (i := 43) (by decide +kernel))
  | k + 3, hk => exact absurd hk (by omega)
theorem cok_X7 : ClOK 6 (RX7, TX7, 3) := ⟨lay_X7, nmX7, tyX7_ok, by decide +kernel, lw1 (List.mem_of_getElem? (i := 31) (by decide +kernel)), lw1 (List.mem_of_getElem? (i := 2) (by decide +kernel)), by decide +kernel⟩
theorem lay_X8 : ∀ w ∈ u_ws RX8 TX8 6, w ∈ lw_tbl := by
  intro w hw
  obtain ⟨k, hk, rfl⟩ := List.mem_map.mp hw
  have hk := List.mem_range.mp hk
  match k, hk with
  | 0, _ => exact lw2 (List.mem_of_getElem? (i := 201) (by decide +kernel))
  | 1, _ => exact lw2 (List.mem_of_getElem? (i := 203) (by decide +kernel))
  | 2, _ => exact lw2 (List.mem_of_getElem? (i := 205) (by decide +kernel))
  | 3, _ => exact lw2 (List.mem_of_getElem? (i := 207) (by decide +kernel))
  | 4, _ => exact lw2 (List.mem_of_getElem? (i := 209) (by decide +kernel))
  | 5, _ => exact lw2 (List.mem_of_getElem? (i := 211) (by decide +kernel))
  | k + 6, hk => exact absurd hk (by omega)
theorem cok_X8 : ClOK 7 (RX8, TX8, 6) := ⟨lay_X8, nmX8, tyX8_ok, by decide +kernel, lw2 (List.mem_of_getElem? (i := 186) (by decide +kernel)), lw1 (List.mem_of_getElem? (i := 13) (by decide +kernel)), by decide +kernel⟩
theorem lay_X9 : ∀ w ∈ u_ws RX9 TX9 8, w ∈ lw_tbl := by
  intro w hw
  obtain ⟨k, hk, rfl⟩ := List.mem_map.mp hw
  have hk := List.mem_range.mp hk
  match k, hk with
  | 0, _ => exact lw2 (List.mem_of_getElem? (i := 14) (by decide +kernel))
  | 1, _ => exact lw2 (List.mem_of_getElem? (i := 16) (by decide +kernel))
  | 2, _ => exact lw2 (List.mem_of_getElem? (i := 18) (by decide +kernel))
  | 3, _ => exact lw2 (List.mem_of_getElem? (i := 20) (by decide +kernel))
  | 4, _ => exact lw2 (List.mem_of_getElem? (i := 22) (by decide +kernel))
  | 5, _ => exact lw2 (List.mem_of_getElem? (i := 24) (by decide +kernel))
  | 6, _ => exact lw2 (List.mem_of_getElem? (i := 26) (by decide +kernel))
  | 7, _ => exact lw2 (List.mem_of_getElem? (i := 28) (by decide +kernel))
  | k + 8, hk => exact absurd hk (by omega)
theorem cok_X9 : ClOK 8 (RX9, TX9, 8) := ⟨lay_X9, nmX9, tyX9_ok, by decide +kernel, lw1 (List.mem_of_getElem? (i := 226) (by decide +kernel)), lw1 (List.mem_of_getElem? (i := 10) (by decide +kernel)), by decide +kernel⟩
theorem lay_X11 : ∀ w ∈ u_ws RX11 TX11 15, w ∈ lw_tbl := by
  intro w hw
  obtain ⟨k, hk, rfl⟩ := List.mem_map.mp hw
  have hk := List.mem_range.mp hk
  match k, hk with
  | 0, _ => exact lw3 (List.mem_of_getElem? (i := 53) (by decide +kernel))
  | 1, _ => exact lw3 (List.mem_of_getElem? (i := 55) (by decide +kernel))
  | 2, _ => exact lw3 (List.mem_of_getElem? (i := 57) (by decide +kernel))
  | 3, _ => exact lw3 (List.mem_of_getElem? (i := 59) (by decide +kernel))
  | 4, _ => exact lw3 (List.mem_of_getElem? (i := 61) (by decide +kernel))
  | 5, _ => exact lw3 (List.mem_of_getElem? (i := 63) (by decide +kernel))
  | 6, _ => exact lw3 (List.mem_of_getElem? (i := 65) (by decide +kernel))
  | 7, _ => exact lw3 (List.mem_of_getElem? (i := 67) (by decide +kernel))
  | 8, _ => exact lw3 (List.mem_of_getElem? (i := 69) (by decide +kernel))
  | 9, _ => exact lw3 (List.mem_of_getElem? (i := 71) (by decide +kernel))
  | 10, _ => exact lw3 (List.mem_of_getElem? (i := 73) (by decide +kernel))
  | 11, _ => exact lw3 (List.mem_of_getElem? (i := 75) (by decide +kernel))
  | 12, _ => exact lw3 (List.mem_of_getElem? (i := 77) (by decide +kernel))
  | 13, _ => exact lw3 (List.mem_of_getElem? (i := 79) (by decide +kernel))
  | 14, _ => exact lw3 (List.mem_of_getElem? (i := 81) (by decide +kernel))
  | k + 15, hk => exact absurd hk (by omega)
theorem cok_X11 : ClOK 9 (RX11, TX11, 15) := ⟨lay_X11, nmX11, tyX11_ok, by decide +kernel, lw1 (List.mem_of_getElem? (i := 23) (by decide +kernel)), lw1 (List.mem_of_getElem? (i := 1) (by decide +kernel)), by decide +kernel⟩
theorem lay_X12 : ∀ w ∈ u_ws RX12 TX12 39, w ∈ lw_tbl := by
  intro w hw
  obtain ⟨k, hk, rfl⟩ := List.mem_map.mp hw
  have hk := List.mem_range.mp hk
  match k, hk with
  | 0, _ => exact lw6 (List.mem_of_getElem? (i := 222) (by decide +kernel))
  | 1, _ => exact lw6 (List.mem_of_getElem? (i := 224) (by decide +kernel))
  | 2, _ => exact lw6 (List.mem_of_getElem? (i := 226) (by decide +kernel))
  | 3, _ => exact lw6 (List.mem_of_getElem? (i := 228) (by decide +kernel))
  | 4, _ => exact lw6 (List.mem_of_getElem? (i := 230) (by decide +kernel))
  | 5, _ => exact lw6 (List.mem_of_getElem? (i := 232) (by decide +kernel))
  | 6, _ => exact lw6 (List.mem_of_getElem? (i := 234) (by decide +kernel))
  | 7, _ => exact lw6 (List.mem_of_getElem? (i := 236) (by decide +kernel))
  | 8, _ => exact lw6 (List.mem_of_getElem? (i := 238) (by decide +kernel))
  | 9, _ => exact lw7 (List.mem_of_getElem? (i := 0) (by decide +kernel))
  | 10, _ => exact lw7 (List.mem_of_getElem? (i := 2) (by decide +kernel))
  | 11, _ => exact lw7 (List.mem_of_getElem? (i := 4) (by decide +kernel))
  | 12, _ => exact lw7 (List.mem_of_getElem? (i := 6) (by decide +kernel))
  | 13, _ => exact lw7 (List.mem_of_getElem? (i := 8) (by decide +kernel))
  | 14, _ => exact lw7 (List.mem_of_getElem? (i := 10) (by decide +kernel))
  | 15, _ => exact lw7 (List.mem_of_getElem? (i := 12) (by decide +kernel))
  | 16, _ => exact lw7 (List.mem_of_getElem? (i := 14) (by decide +kernel))
  | 17, _ => exact lw7 (List.mem_of_getElem? (i := 16) (by decide +kernel))
  | 18, _ => exact lw7 (List.mem_of_getElem? (i := 18) (by decide +kernel))
  | 19, _ => exact lw7 (List.mem_of_getElem? (i := 20) (by decide +kernel))
  | 20, _ => exact lw7 (List.mem_of_getElem? (i := 22) (by decide +kernel))
  | 21, _ => exact lw7 (List.mem_of_getElem? (i := 24) (by decide +kernel))
  | 22, _ => exact lw7 (List.mem_of_getElem? (i := 26) (by decide +kernel))
  | 23, _ => exact lw7 (List.mem_of_getElem? (i := 28) (by decide +kernel))
  | 24, _ => exact lw7 (List.mem_of_getElem? (i := 30) (by decide +kernel))
  | 25, _ => exact lw7 (List.mem_of_getElem? (i := 32) (by decide +kernel))
  | 26, _ => exact lw7 (List.mem_of_getElem? (i := 34) (by decide +kernel))
  | 27, _ => exact lw7 (List.mem_of_getElem? (i := 36) (by decide +kernel))
  | 28, _ => exact lw7 (List.mem_of_getElem? (i := 38) (by decide +kernel))
  | 29, _ => exact lw7 (List.mem_of_getElem? (i := 40) (by decide +kernel))
  | 30, _ => exact lw7 (List.mem_of_getElem? (i := 42) (by decide +kernel))
  | 31, _ => exact lw7 (List.mem_of_getElem? (i := 44) (by decide +kernel))
  | 32, _ => exact lw7 (List.mem_of_getElem? (i := 46) (by decide +kernel))
  | 33, _ => exact lw7 (List.mem_of_getElem? (i := 48) (by decide +kernel))
  | 34, _ => exact lw7 (List.mem_of_getElem? (i := 50) (by decide +kernel))
  | 35, _ => exact lw7 (List.mem_of_getElem? (i := 52) (by decide +kernel))
  | 36, _ => exact lw7 (List.mem_of_getElem? (i := 54) (by decide +kernel))
  | 37, _ => exact lw7 (List.mem_of_getElem? (i := 56) (by decide +kernel))
  | 38, _ => exact lw7 (List.mem_of_getElem? (i := 58) (by decide +kernel))
  | k + 39, hk => exact absurd hk (by omega)
theorem cok_X12 : ClOK 10 (RX12, TX12, 39) := ⟨lay_X12, nmX12, tyX12_ok, by decide +kernel, lw6 (List.mem_of_getElem? (i := 174) (by decide +kernel)), lw1 (List.mem_of_getElem? (i := 16) (by decide +kernel)), by decide +kernel⟩
abbrev miX11_init : Mi := (RX11, 1, none, { frames := 6, cells := 112, slots := 15003, locals := 129 }, "<init>")
theorem mo_X11_init : MOK yX11_init cX11_init miX11_init 0 := ⟨lw1 (List.mem_of_getElem? (i := 26) (by decide +kernel)), lw1 (List.mem_of_getElem? (i := 1) (by decide +kernel)), by decide +kernel, by decide +kernel, rfl, rfl⟩
theorem mj_X11_init : MOKi yX11_init := ⟨rfl, lw1 (List.mem_of_getElem? (i := 25) (by decide +kernel))⟩
abbrev miX11_status : Mi := (RX11, 1, (some .int), { frames := 0, cells := 0, slots := 0, locals := 0 }, "status")
theorem mo_X11_status : MOK yX11_status cX11_status miX11_status 0 := ⟨lw3 (List.mem_of_getElem? (i := 87) (by decide +kernel)), lw1 (List.mem_of_getElem? (i := 1) (by decide +kernel)), by decide +kernel, by decide +kernel, rfl, rfl⟩
theorem mv_X11_status : MOKv yX11_status := ⟨lw3 (List.mem_of_getElem? (i := 85) (by decide +kernel)), lw3 (List.mem_of_getElem? (i := 86) (by decide +kernel))⟩
abbrev miX11_top : Mi := (RX11, 1, (some .long), { frames := 0, cells := 0, slots := 0, locals := 0 }, "top")
theorem mo_X11_top : MOK yX11_top cX11_top miX11_top 0 := ⟨lw3 (List.mem_of_getElem? (i := 91) (by decide +kernel)), lw1 (List.mem_of_getElem? (i := 1) (by decide +kernel)), by decide +kernel, by decide +kernel, rfl, rfl⟩
theorem mv_X11_top : MOKv yX11_top := ⟨lw3 (List.mem_of_getElem? (i := 89) (by decide +kernel)), lw3 (List.mem_of_getElem? (i := 90) (by decide +kernel))⟩
abbrev miX11_bottom : Mi := (RX11, 1, (some .long), { frames := 0, cells := 0, slots := 0, locals := 0 }, "bottom")
theorem mo_X11_bottom : MOK yX11_bottom cX11_bottom miX11_bottom 0 := ⟨lw3 (List.mem_of_getElem? (i := 95) (by decide +kernel)), lw1 (List.mem_of_getElem? (i := 1) (by decide +kernel)), by decide +kernel, by decide +kernel, rfl, rfl⟩
theorem mv_X11_bottom : MOKv yX11_bottom := ⟨lw3 (List.mem_of_getElem? (i := 93) (by decide +kernel)), lw3 (List.mem_of_getElem? (i := 94) (by decide +kernel))⟩
abbrev miX11_tray : Mi := (RX11, 4, (some .boolean), { frames := 1, cells := 0, slots := 0, locals := 24 }, "tray")
theorem mo_X11_tray : MOK yX11_tray cX11_tray miX11_tray 3 := ⟨lw3 (List.mem_of_getElem? (i := 99) (by decide +kernel)), lw1 (List.mem_of_getElem? (i := 1) (by decide +kernel)), by decide +kernel, by decide +kernel, rfl, rfl⟩
theorem mv_X11_tray : MOKv yX11_tray := ⟨lw3 (List.mem_of_getElem? (i := 97) (by decide +kernel)), lw3 (List.mem_of_getElem? (i := 98) (by decide +kernel))⟩
abbrev miX11_write : Mi := (RX11, 6, (some .boolean), { frames := 2, cells := 0, slots := 0, locals := 46 }, "write")
theorem mo_X11_write : MOK yX11_write cX11_write miX11_write 3 := ⟨lw3 (List.mem_of_getElem? (i := 118) (by decide +kernel)), lw1 (List.mem_of_getElem? (i := 1) (by decide +kernel)), by decide +kernel, by decide +kernel, rfl, rfl⟩
theorem mv_X11_write : MOKv yX11_write := ⟨lw3 (List.mem_of_getElem? (i := 116) (by decide +kernel)), lw3 (List.mem_of_getElem? (i := 117) (by decide +kernel))⟩
abbrev miX11_read : Mi := (RX11, 4, (some .long), { frames := 2, cells := 0, slots := 0, locals := 45 }, "read")
theorem mo_X11_read : MOK yX11_read cX11_read miX11_read 2 := ⟨lw3 (List.mem_of_getElem? (i := 141) (by decide +kernel)), lw1 (List.mem_of_getElem? (i := 1) (by decide +kernel)), by decide +kernel, by decide +kernel, rfl, rfl⟩
theorem mv_X11_read : MOKv yX11_read := ⟨lw3 (List.mem_of_getElem? (i := 139) (by decide +kernel)), lw3 (List.mem_of_getElem? (i := 140) (by decide +kernel))⟩
abbrev miX11_pour : Mi := (RX11, 6, (some .boolean), { frames := 2, cells := 0, slots := 0, locals := 51 }, "pour")
theorem mo_X11_pour : MOK yX11_pour cX11_pour miX11_pour 5 := ⟨lw3 (List.mem_of_getElem? (i := 153) (by decide +kernel)), lw1 (List.mem_of_getElem? (i := 1) (by decide +kernel)), by decide +kernel, by decide +kernel, rfl, rfl⟩
theorem mv_X11_pour : MOKv yX11_pour := ⟨lw3 (List.mem_of_getElem? (i := 151) (by decide +kernel)), lw3 (List.mem_of_getElem? (i := 152) (by decide +kernel))⟩
abbrev miX11_feed : Mi := (RX11, 6, (some .int), { frames := 1, cells := 0, slots := 0, locals := 22 }, "feed")
theorem mo_X11_feed : MOK yX11_feed cX11_feed miX11_feed 5 := ⟨lw3 (List.mem_of_getElem? (i := 168) (by decide +kernel)), lw1 (List.mem_of_getElem? (i := 1) (by decide +kernel)), by decide +kernel, by decide +kernel, rfl, rfl⟩
theorem mv_X11_feed : MOKv yX11_feed := ⟨lw3 (List.mem_of_getElem? (i := 166) (by decide +kernel)), lw3 (List.mem_of_getElem? (i := 167) (by decide +kernel))⟩
abbrev miX11_town : Mi := (RX11, 4, (some .int), { frames := 6, cells := 0, slots := 0, locals := 135 }, "town")
theorem mo_X11_town : MOK yX11_town cX11_town miX11_town 1 := ⟨lw3 (List.mem_of_getElem? (i := 180) (by decide +kernel)), lw1 (List.mem_of_getElem? (i := 1) (by decide +kernel)), by decide +kernel, by decide +kernel, rfl, rfl⟩
theorem mv_X11_town : MOKv yX11_town := ⟨lw3 (List.mem_of_getElem? (i := 178) (by decide +kernel)), lw3 (List.mem_of_getElem? (i := 179) (by decide +kernel))⟩
abbrev miX11_year : Mi := (RX11, 3, (some .int), { frames := 6, cells := 0, slots := 0, locals := 138 }, "year")
theorem mo_X11_year : MOK yX11_year cX11_year miX11_year 1 := ⟨lw4 (List.mem_of_getElem? (i := 81) (by decide +kernel)), lw1 (List.mem_of_getElem? (i := 1) (by decide +kernel)), by decide +kernel, by decide +kernel, rfl, rfl⟩
theorem mv_X11_year : MOKv yX11_year := ⟨lw4 (List.mem_of_getElem? (i := 79) (by decide +kernel)), lw4 (List.mem_of_getElem? (i := 80) (by decide +kernel))⟩
abbrev miX11_fault : Mi := (RX11, 2, (some .int), { frames := 0, cells := 0, slots := 0, locals := 0 }, "fault")
theorem mo_X11_fault : MOK yX11_fault cX11_fault miX11_fault 1 := ⟨lw4 (List.mem_of_getElem? (i := 154) (by decide +kernel)), lw1 (List.mem_of_getElem? (i := 1) (by decide +kernel)), by decide +kernel, by decide +kernel, rfl, rfl⟩
theorem mv_X11_fault : MOKv yX11_fault := ⟨lw4 (List.mem_of_getElem? (i := 152) (by decide +kernel)), lw4 (List.mem_of_getElem? (i := 153) (by decide +kernel))⟩
abbrev miX11_told : Mi := (RX11, 3, (some .int), { frames := 1, cells := 0, slots := 0, locals := 21 }, "told")
theorem mo_X11_told : MOK yX11_told cX11_told miX11_told 1 := ⟨lw4 (List.mem_of_getElem? (i := 158) (by decide +kernel)), lw1 (List.mem_of_getElem? (i := 1) (by decide +kernel)), by decide +kernel, by decide +kernel, rfl, rfl⟩
theorem mv_X11_told : MOKv yX11_told := ⟨lw4 (List.mem_of_getElem? (i := 156) (by decide +kernel)), lw4 (List.mem_of_getElem? (i := 157) (by decide +kernel))⟩
abbrev miX11_picture : Mi := (RX11, 1, (some .long), { frames := 1, cells := 0, slots := 0, locals := 21 }, "picture")
theorem mo_X11_picture : MOK yX11_picture cX11_picture miX11_picture 0 := ⟨lw4 (List.mem_of_getElem? (i := 162) (by decide +kernel)), lw1 (List.mem_of_getElem? (i := 1) (by decide +kernel)), by decide +kernel, by decide +kernel, rfl, rfl⟩
theorem mv_X11_picture : MOKv yX11_picture := ⟨lw4 (List.mem_of_getElem? (i := 160) (by decide +kernel)), lw4 (List.mem_of_getElem? (i := 161) (by decide +kernel))⟩
abbrev miX11_lamp : Mi := (RX11, 7, (some .int), { frames := 2, cells := 0, slots := 0, locals := 55 }, "lamp")
theorem mo_X11_lamp : MOK yX11_lamp cX11_lamp miX11_lamp 3 := ⟨lw4 (List.mem_of_getElem? (i := 166) (by decide +kernel)), lw1 (List.mem_of_getElem? (i := 1) (by decide +kernel)), by decide +kernel, by decide +kernel, rfl, rfl⟩
theorem mv_X11_lamp : MOKv yX11_lamp := ⟨lw4 (List.mem_of_getElem? (i := 164) (by decide +kernel)), lw4 (List.mem_of_getElem? (i := 165) (by decide +kernel))⟩
abbrev miX11_rule : Mi := (RX11, 3, (some .int), { frames := 1, cells := 0, slots := 0, locals := 21 }, "rule")
theorem mo_X11_rule : MOK yX11_rule cX11_rule miX11_rule 2 := ⟨lw4 (List.mem_of_getElem? (i := 182) (by decide +kernel)), lw1 (List.mem_of_getElem? (i := 1) (by decide +kernel)), by decide +kernel, by decide +kernel, rfl, rfl⟩
theorem mv_X11_rule : MOKv yX11_rule := ⟨lw4 (List.mem_of_getElem? (i := 180) (by decide +kernel)), lw4 (List.mem_of_getElem? (i := 181) (by decide +kernel))⟩
abbrev miX11_citizen : Mi := (RX11, 3, (some .int), { frames := 1, cells := 0, slots := 0, locals := 21 }, "citizen")
theorem mo_X11_citizen : MOK yX11_citizen cX11_citizen miX11_citizen 2 := ⟨lw4 (List.mem_of_getElem? (i := 190) (by decide +kernel)), lw1 (List.mem_of_getElem? (i := 1) (by decide +kernel)), by decide +kernel, by decide +kernel, rfl, rfl⟩
theorem mv_X11_citizen : MOKv yX11_citizen := ⟨lw4 (List.mem_of_getElem? (i := 188) (by decide +kernel)), lw4 (List.mem_of_getElem? (i := 189) (by decide +kernel))⟩
abbrev miX11_turn : Mi := (RX11, 5, (some .int), { frames := 2, cells := 0, slots := 0, locals := 45 }, "turn")
theorem mo_X11_turn : MOK yX11_turn cX11_turn miX11_turn 2 := ⟨lw4 (List.mem_of_getElem? (i := 198) (by decide +kernel)), lw1 (List.mem_of_getElem? (i := 1) (by decide +kernel)), by decide +kernel, by decide +kernel, rfl, rfl⟩
theorem mv_X11_turn : MOKv yX11_turn := ⟨lw4 (List.mem_of_getElem? (i := 196) (by decide +kernel)), lw4 (List.mem_of_getElem? (i := 197) (by decide +kernel))⟩
abbrev miX11_paint : Mi := (RX11, 3, (some .int), { frames := 2, cells := 0, slots := 0, locals := 41 }, "paint")
theorem mo_X11_paint : MOK yX11_paint cX11_paint miX11_paint 1 := ⟨lw4 (List.mem_of_getElem? (i := 206) (by decide +kernel)), lw1 (List.mem_of_getElem? (i := 1) (by decide +kernel)), by decide +kernel, by decide +kernel, rfl, rfl⟩
theorem mv_X11_paint : MOKv yX11_paint := ⟨lw4 (List.mem_of_getElem? (i := 204) (by decide +kernel)), lw4 (List.mem_of_getElem? (i := 205) (by decide +kernel))⟩
abbrev miX11_paintRows : Mi := (RX11, 8, (some .int), { frames := 2, cells := 0, slots := 0, locals := 45 }, "paintRows")
theorem mo_X11_paintRows : MOK yX11_paintRows cX11_paintRows miX11_paintRows 1 := ⟨lw4 (List.mem_of_getElem? (i := 219) (by decide +kernel)), lw1 (List.mem_of_getElem? (i := 1) (by decide +kernel)), by decide +kernel, by decide +kernel, rfl, rfl⟩
theorem mv_X11_paintRows : MOKv yX11_paintRows := ⟨lw4 (List.mem_of_getElem? (i := 217) (by decide +kernel)), lw4 (List.mem_of_getElem? (i := 218) (by decide +kernel))⟩
abbrev miX11_copyRows : Mi := (RX11, 5, (some .int), { frames := 2, cells := 0, slots := 0, locals := 46 }, "copyRows")
theorem mo_X11_copyRows : MOK yX11_copyRows cX11_copyRows miX11_copyRows 1 := ⟨lw4 (List.mem_of_getElem? (i := 228) (by decide +kernel)), lw1 (List.mem_of_getElem? (i := 1) (by decide +kernel)), by decide +kernel, by decide +kernel, rfl, rfl⟩
theorem mv_X11_copyRows : MOKv yX11_copyRows := ⟨lw4 (List.mem_of_getElem? (i := 226) (by decide +kernel)), lw4 (List.mem_of_getElem? (i := 227) (by decide +kernel))⟩
abbrev miX11_mayor : Mi := (RX11, 2, (some .boolean), { frames := 1, cells := 0, slots := 0, locals := 21 }, "mayor")
theorem mo_X11_mayor : MOK yX11_mayor cX11_mayor miX11_mayor 1 := ⟨lw4 (List.mem_of_getElem? (i := 237) (by decide +kernel)), lw1 (List.mem_of_getElem? (i := 1) (by decide +kernel)), by decide +kernel, by decide +kernel, rfl, rfl⟩
theorem mv_X11_mayor : MOKv yX11_mayor := ⟨lw4 (List.mem_of_getElem? (i := 235) (by decide +kernel)), lw4 (List.mem_of_getElem? (i := 236) (by decide +kernel))⟩
abbrev miX11_bend : Mi := (RX11, 4, (some .boolean), { frames := 1, cells := 0, slots := 0, locals := 21 }, "bend")
theorem mo_X11_bend : MOK yX11_bend cX11_bend miX11_bend 3 := ⟨lw5 (List.mem_of_getElem? (i := 1) (by decide +kernel)), lw1 (List.mem_of_getElem? (i := 1) (by decide +kernel)), by decide +kernel, by decide +kernel, rfl, rfl⟩
theorem mv_X11_bend : MOKv yX11_bend := ⟨lw4 (List.mem_of_getElem? (i := 239) (by decide +kernel)), lw5 (List.mem_of_getElem? (i := 0) (by decide +kernel))⟩
abbrev miX11_night : Mi := (RX11, 2, (some .int), { frames := 4, cells := 0, slots := 0, locals := 111 }, "night")
theorem mo_X11_night : MOK yX11_night cX11_night miX11_night 1 := ⟨lw5 (List.mem_of_getElem? (i := 5) (by decide +kernel)), lw1 (List.mem_of_getElem? (i := 1) (by decide +kernel)), by decide +kernel, by decide +kernel, rfl, rfl⟩
theorem mv_X11_night : MOKv yX11_night := ⟨lw5 (List.mem_of_getElem? (i := 3) (by decide +kernel)), lw5 (List.mem_of_getElem? (i := 4) (by decide +kernel))⟩
abbrev miX11_ahead : Mi := (RX11, 2, (some .long), { frames := 3, cells := 0, slots := 0, locals := 88 }, "ahead")
theorem mo_X11_ahead : MOK yX11_ahead cX11_ahead miX11_ahead 1 := ⟨lw5 (List.mem_of_getElem? (i := 29) (by decide +kernel)), lw1 (List.mem_of_getElem? (i := 1) (by decide +kernel)), by decide +kernel, by decide +kernel, rfl, rfl⟩
theorem mv_X11_ahead : MOKv yX11_ahead := ⟨lw5 (List.mem_of_getElem? (i := 27) (by decide +kernel)), lw5 (List.mem_of_getElem? (i := 28) (by decide +kernel))⟩
abbrev miX11_again : Mi := (RX11, 2, (some .int), { frames := 5, cells := 0, slots := 0, locals := 127 }, "again")
theorem mo_X11_again : MOK yX11_again cX11_again miX11_again 1 := ⟨lw5 (List.mem_of_getElem? (i := 37) (by decide +kernel)), lw1 (List.mem_of_getElem? (i := 1) (by decide +kernel)), by decide +kernel, by decide +kernel, rfl, rfl⟩
theorem mv_X11_again : MOKv yX11_again := ⟨lw5 (List.mem_of_getElem? (i := 35) (by decide +kernel)), lw5 (List.mem_of_getElem? (i := 36) (by decide +kernel))⟩
abbrev miX11_far : Mi := (RX11, 2, (some .long), { frames := 5, cells := 0, slots := 0, locals := 127 }, "far")
theorem mo_X11_far : MOK yX11_far cX11_far miX11_far 1 := ⟨lw5 (List.mem_of_getElem? (i := 54) (by decide +kernel)), lw1 (List.mem_of_getElem? (i := 1) (by decide +kernel)), by decide +kernel, by decide +kernel, rfl, rfl⟩
theorem mv_X11_far : MOKv yX11_far := ⟨lw5 (List.mem_of_getElem? (i := 52) (by decide +kernel)), lw5 (List.mem_of_getElem? (i := 53) (by decide +kernel))⟩
abbrev miX11_walks : Mi := (RX11, 2, (some .int), { frames := 4, cells := 0, slots := 0, locals := 105 }, "walks")
theorem mo_X11_walks : MOK yX11_walks cX11_walks miX11_walks 1 := ⟨lw5 (List.mem_of_getElem? (i := 63) (by decide +kernel)), lw1 (List.mem_of_getElem? (i := 1) (by decide +kernel)), by decide +kernel, by decide +kernel, rfl, rfl⟩
theorem mv_X11_walks : MOKv yX11_walks := ⟨lw5 (List.mem_of_getElem? (i := 61) (by decide +kernel)), lw5 (List.mem_of_getElem? (i := 62) (by decide +kernel))⟩
abbrev miX11_still : Mi := (RX11, 1, (some .int), { frames := 3, cells := 0, slots := 0, locals := 78 }, "still")
theorem mo_X11_still : MOK yX11_still cX11_still miX11_still 0 := ⟨lw5 (List.mem_of_getElem? (i := 76) (by decide +kernel)), lw1 (List.mem_of_getElem? (i := 1) (by decide +kernel)), by decide +kernel, by decide +kernel, rfl, rfl⟩
theorem mv_X11_still : MOKv yX11_still := ⟨lw5 (List.mem_of_getElem? (i := 74) (by decide +kernel)), lw5 (List.mem_of_getElem? (i := 75) (by decide +kernel))⟩
abbrev miX11_next : Mi := (RX11, 4, (some .int), { frames := 3, cells := 0, slots := 0, locals := 79 }, "next")
theorem mo_X11_next : MOK yX11_next cX11_next miX11_next 1 := ⟨lw5 (List.mem_of_getElem? (i := 84) (by decide +kernel)), lw1 (List.mem_of_getElem? (i := 1) (by decide +kernel)), by decide +kernel, by decide +kernel, rfl, rfl⟩
theorem mv_X11_next : MOKv yX11_next := ⟨lw5 (List.mem_of_getElem? (i := 82) (by decide +kernel)), lw5 (List.mem_of_getElem? (i := 83) (by decide +kernel))⟩
abbrev miX11_oil : Mi := (RX11, 5, (some .int), { frames := 3, cells := 0, slots := 0, locals := 79 }, "oil")
theorem mo_X11_oil : MOK yX11_oil cX11_oil miX11_oil 1 := ⟨lw5 (List.mem_of_getElem? (i := 89) (by decide +kernel)), lw1 (List.mem_of_getElem? (i := 1) (by decide +kernel)), by decide +kernel, by decide +kernel, rfl, rfl⟩
theorem mv_X11_oil : MOKv yX11_oil := ⟨lw5 (List.mem_of_getElem? (i := 87) (by decide +kernel)), lw5 (List.mem_of_getElem? (i := 88) (by decide +kernel))⟩
abbrev miX11_brightest : Mi := (RX11, 5, (some .int), { frames := 3, cells := 0, slots := 0, locals := 79 }, "brightest")
theorem mo_X11_brightest : MOK yX11_brightest cX11_brightest miX11_brightest 1 := ⟨lw5 (List.mem_of_getElem? (i := 93) (by decide +kernel)), lw1 (List.mem_of_getElem? (i := 1) (by decide +kernel)), by decide +kernel, by decide +kernel, rfl, rfl⟩
theorem mv_X11_brightest : MOKv yX11_brightest := ⟨lw5 (List.mem_of_getElem? (i := 91) (by decide +kernel)), lw5 (List.mem_of_getElem? (i := 92) (by decide +kernel))⟩
abbrev miX11_ancestors : Mi := (RX11, 1, (some .long), { frames := 6, cells := 0, slots := 0, locals := 166 }, "ancestors")
theorem mo_X11_ancestors : MOK yX11_ancestors cX11_ancestors miX11_ancestors 0 := ⟨lw5 (List.mem_of_getElem? (i := 100) (by decide +kernel)), lw1 (List.mem_of_getElem? (i := 1) (by decide +kernel)), by decide +kernel, by decide +kernel, rfl, rfl⟩
theorem mv_X11_ancestors : MOKv yX11_ancestors := ⟨lw5 (List.mem_of_getElem? (i := 98) (by decide +kernel)), lw5 (List.mem_of_getElem? (i := 99) (by decide +kernel))⟩
abbrev miX11_ancestor : Mi := (RX11, 1, (some .long), { frames := 6, cells := 0, slots := 0, locals := 166 }, "ancestor")
theorem mo_X11_ancestor : MOK yX11_ancestor cX11_ancestor miX11_ancestor 0 := ⟨lw5 (List.mem_of_getElem? (i := 133) (by decide +kernel)), lw1 (List.mem_of_getElem? (i := 1) (by decide +kernel)), by decide +kernel, by decide +kernel, rfl, rfl⟩
theorem mv_X11_ancestor : MOKv yX11_ancestor := ⟨lw5 (List.mem_of_getElem? (i := 131) (by decide +kernel)), lw5 (List.mem_of_getElem? (i := 132) (by decide +kernel))⟩
abbrev miX11_stills : Mi := (RX11, 1, (some .long), { frames := 6, cells := 0, slots := 0, locals := 166 }, "stills")
theorem mo_X11_stills : MOK yX11_stills cX11_stills miX11_stills 0 := ⟨lw5 (List.mem_of_getElem? (i := 145) (by decide +kernel)), lw1 (List.mem_of_getElem? (i := 1) (by decide +kernel)), by decide +kernel, by decide +kernel, rfl, rfl⟩
theorem mv_X11_stills : MOKv yX11_stills := ⟨lw5 (List.mem_of_getElem? (i := 143) (by decide +kernel)), lw5 (List.mem_of_getElem? (i := 144) (by decide +kernel))⟩
abbrev miX11_firstStill : Mi := (RX11, 1, (some .long), { frames := 6, cells := 0, slots := 0, locals := 166 }, "firstStill")
theorem mo_X11_firstStill : MOK yX11_firstStill cX11_firstStill miX11_firstStill 0 := ⟨lw5 (List.mem_of_getElem? (i := 149) (by decide +kernel)), lw1 (List.mem_of_getElem? (i := 1) (by decide +kernel)), by decide +kernel, by decide +kernel, rfl, rfl⟩
theorem mv_X11_firstStill : MOKv yX11_firstStill := ⟨lw5 (List.mem_of_getElem? (i := 147) (by decide +kernel)), lw5 (List.mem_of_getElem? (i := 148) (by decide +kernel))⟩
abbrev miX11_pictures : Mi := (RX11, 1, (some .long), { frames := 1, cells := 0, slots := 0, locals := 21 }, "pictures")
theorem mo_X11_pictures : MOK yX11_pictures cX11_pictures miX11_pictures 0 := ⟨lw5 (List.mem_of_getElem? (i := 153) (by decide +kernel)), lw1 (List.mem_of_getElem? (i := 1) (by decide +kernel)), by decide +kernel, by decide +kernel, rfl, rfl⟩
theorem mv_X11_pictures : MOKv yX11_pictures := ⟨lw5 (List.mem_of_getElem? (i := 151) (by decide +kernel)), lw5 (List.mem_of_getElem? (i := 152) (by decide +kernel))⟩
abbrev miX11_signal : Mi := (RX11, 6, (some .int), { frames := 6, cells := 0, slots := 0, locals := 161 }, "signal")
theorem mo_X11_signal : MOK yX11_signal cX11_signal miX11_signal 4 := ⟨lw5 (List.mem_of_getElem? (i := 157) (by decide +kernel)), lw1 (List.mem_of_getElem? (i := 1) (by decide +kernel)), by decide +kernel, by decide +kernel, rfl, rfl⟩
theorem mv_X11_signal : MOKv yX11_signal := ⟨lw5 (List.mem_of_getElem? (i := 155) (by decide +kernel)), lw5 (List.mem_of_getElem? (i := 156) (by decide +kernel))⟩
abbrev miX11_spoils : Mi := (RX11, 5, (some .int), { frames := 4, cells := 0, slots := 0, locals := 111 }, "spoils")
theorem mo_X11_spoils : MOK yX11_spoils cX11_spoils miX11_spoils 3 := ⟨lw5 (List.mem_of_getElem? (i := 196) (by decide +kernel)), lw1 (List.mem_of_getElem? (i := 1) (by decide +kernel)), by decide +kernel, by decide +kernel, rfl, rfl⟩
theorem mv_X11_spoils : MOKv yX11_spoils := ⟨lw5 (List.mem_of_getElem? (i := 194) (by decide +kernel)), lw5 (List.mem_of_getElem? (i := 195) (by decide +kernel))⟩
abbrev miX11_worst : Mi := (RX11, 3, (some .int), { frames := 5, cells := 0, slots := 0, locals := 135 }, "worst")
theorem mo_X11_worst : MOK yX11_worst cX11_worst miX11_worst 2 := ⟨lw5 (List.mem_of_getElem? (i := 204) (by decide +kernel)), lw1 (List.mem_of_getElem? (i := 1) (by decide +kernel)), by decide +kernel, by decide +kernel, rfl, rfl⟩
theorem mv_X11_worst : MOKv yX11_worst := ⟨lw5 (List.mem_of_getElem? (i := 202) (by decide +kernel)), lw5 (List.mem_of_getElem? (i := 203) (by decide +kernel))⟩
abbrev miX11_mend : Mi := (RX11, 4, (some .int), { frames := 5, cells := 0, slots := 0, locals := 128 }, "mend")
theorem mo_X11_mend : MOK yX11_mend cX11_mend miX11_mend 2 := ⟨lw5 (List.mem_of_getElem? (i := 213) (by decide +kernel)), lw1 (List.mem_of_getElem? (i := 1) (by decide +kernel)), by decide +kernel, by decide +kernel, rfl, rfl⟩
theorem mv_X11_mend : MOKv yX11_mend := ⟨lw5 (List.mem_of_getElem? (i := 211) (by decide +kernel)), lw5 (List.mem_of_getElem? (i := 212) (by decide +kernel))⟩
abbrev miX11_unlike : Mi := (RX11, 3, (some .int), { frames := 2, cells := 0, slots := 0, locals := 42 }, "unlike")
theorem mo_X11_unlike : MOK yX11_unlike cX11_unlike miX11_unlike 1 := ⟨lw5 (List.mem_of_getElem? (i := 231) (by decide +kernel)), lw1 (List.mem_of_getElem? (i := 1) (by decide +kernel)), by decide +kernel, by decide +kernel, rfl, rfl⟩
theorem mv_X11_unlike : MOKv yX11_unlike := ⟨lw5 (List.mem_of_getElem? (i := 229) (by decide +kernel)), lw5 (List.mem_of_getElem? (i := 230) (by decide +kernel))⟩
abbrev miX11_seen : Mi := (RX11, 3, (some .int), { frames := 1, cells := 0, slots := 0, locals := 21 }, "seen")
theorem mo_X11_seen : MOK yX11_seen cX11_seen miX11_seen 2 := ⟨lw5 (List.mem_of_getElem? (i := 236) (by decide +kernel)), lw1 (List.mem_of_getElem? (i := 1) (by decide +kernel)), by decide +kernel, by decide +kernel, rfl, rfl⟩
theorem mv_X11_seen : MOKv yX11_seen := ⟨lw5 (List.mem_of_getElem? (i := 234) (by decide +kernel)), lw5 (List.mem_of_getElem? (i := 235) (by decide +kernel))⟩
abbrev miX11_rulesLeft : Mi := (RX11, 1, (some .int), { frames := 1, cells := 0, slots := 0, locals := 22 }, "rulesLeft")
theorem mo_X11_rulesLeft : MOK yX11_rulesLeft cX11_rulesLeft miX11_rulesLeft 0 := ⟨lw6 (List.mem_of_getElem? (i := 0) (by decide +kernel)), lw1 (List.mem_of_getElem? (i := 1) (by decide +kernel)), by decide +kernel, by decide +kernel, rfl, rfl⟩
theorem mv_X11_rulesLeft : MOKv yX11_rulesLeft := ⟨lw5 (List.mem_of_getElem? (i := 238) (by decide +kernel)), lw5 (List.mem_of_getElem? (i := 239) (by decide +kernel))⟩
abbrev miX11_fits : Mi := (RX11, 3, (some .int), { frames := 1, cells := 0, slots := 0, locals := 23 }, "fits")
theorem mo_X11_fits : MOK yX11_fits cX11_fits miX11_fits 0 := ⟨lw6 (List.mem_of_getElem? (i := 8) (by decide +kernel)), lw1 (List.mem_of_getElem? (i := 1) (by decide +kernel)), by decide +kernel, by decide +kernel, rfl, rfl⟩
theorem mv_X11_fits : MOKv yX11_fits := ⟨lw6 (List.mem_of_getElem? (i := 6) (by decide +kernel)), lw6 (List.mem_of_getElem? (i := 7) (by decide +kernel))⟩
abbrev miX11_forget : Mi := (RX11, 1, (some .int), { frames := 1, cells := 0, slots := 0, locals := 22 }, "forget")
theorem mo_X11_forget : MOK yX11_forget cX11_forget miX11_forget 0 := ⟨lw6 (List.mem_of_getElem? (i := 16) (by decide +kernel)), lw1 (List.mem_of_getElem? (i := 1) (by decide +kernel)), by decide +kernel, by decide +kernel, rfl, rfl⟩
theorem mv_X11_forget : MOKv yX11_forget := ⟨lw6 (List.mem_of_getElem? (i := 14) (by decide +kernel)), lw6 (List.mem_of_getElem? (i := 15) (by decide +kernel))⟩
abbrev miX11_shows : Mi := (RX11, 1, (some .int), { frames := 2, cells := 0, slots := 0, locals := 55 }, "shows")
theorem mo_X11_shows : MOK yX11_shows cX11_shows miX11_shows 0 := ⟨lw6 (List.mem_of_getElem? (i := 24) (by decide +kernel)), lw1 (List.mem_of_getElem? (i := 1) (by decide +kernel)), by decide +kernel, by decide +kernel, rfl, rfl⟩
theorem mv_X11_shows : MOKv yX11_shows := ⟨lw6 (List.mem_of_getElem? (i := 22) (by decide +kernel)), lw6 (List.mem_of_getElem? (i := 23) (by decide +kernel))⟩
abbrev miX11_vote : Mi := (RX11, 2, (some .int), { frames := 3, cells := 0, slots := 0, locals := 79 }, "vote")
theorem mo_X11_vote : MOK yX11_vote cX11_vote miX11_vote 1 := ⟨lw6 (List.mem_of_getElem? (i := 33) (by decide +kernel)), lw1 (List.mem_of_getElem? (i := 1) (by decide +kernel)), by decide +kernel, by decide +kernel, rfl, rfl⟩
theorem mv_X11_vote : MOKv yX11_vote := ⟨lw6 (List.mem_of_getElem? (i := 31) (by decide +kernel)), lw6 (List.mem_of_getElem? (i := 32) (by decide +kernel))⟩
abbrev miX11_votes : Mi := (RX11, 2, (some .int), { frames := 3, cells := 0, slots := 0, locals := 79 }, "votes")
theorem mo_X11_votes : MOK yX11_votes cX11_votes miX11_votes 1 := ⟨lw6 (List.mem_of_getElem? (i := 46) (by decide +kernel)), lw1 (List.mem_of_getElem? (i := 1) (by decide +kernel)), by decide +kernel, by decide +kernel, rfl, rfl⟩
theorem mv_X11_votes : MOKv yX11_votes := ⟨lw6 (List.mem_of_getElem? (i := 44) (by decide +kernel)), lw6 (List.mem_of_getElem? (i := 45) (by decide +kernel))⟩
abbrev miX11_elect : Mi := (RX11, 1, (some .int), { frames := 4, cells := 0, slots := 0, locals := 103 }, "elect")
theorem mo_X11_elect : MOK yX11_elect cX11_elect miX11_elect 0 := ⟨lw6 (List.mem_of_getElem? (i := 55) (by decide +kernel)), lw1 (List.mem_of_getElem? (i := 1) (by decide +kernel)), by decide +kernel, by decide +kernel, rfl, rfl⟩
theorem mv_X11_elect : MOKv yX11_elect := ⟨lw6 (List.mem_of_getElem? (i := 53) (by decide +kernel)), lw6 (List.mem_of_getElem? (i := 54) (by decide +kernel))⟩
abbrev miX11_reads : Mi := (RX11, 4, (some .int), { frames := 2, cells := 0, slots := 0, locals := 42 }, "reads")
theorem mo_X11_reads : MOK yX11_reads cX11_reads miX11_reads 2 := ⟨lw6 (List.mem_of_getElem? (i := 65) (by decide +kernel)), lw1 (List.mem_of_getElem? (i := 1) (by decide +kernel)), by decide +kernel, by decide +kernel, rfl, rfl⟩
theorem mv_X11_reads : MOKv yX11_reads := ⟨lw6 (List.mem_of_getElem? (i := 63) (by decide +kernel)), lw6 (List.mem_of_getElem? (i := 64) (by decide +kernel))⟩
abbrev miX11_mirror : Mi := (RX11, 1, (some .int), { frames := 3, cells := 0, slots := 0, locals := 66 }, "mirror")
theorem mo_X11_mirror : MOK yX11_mirror cX11_mirror miX11_mirror 0 := ⟨lw6 (List.mem_of_getElem? (i := 73) (by decide +kernel)), lw1 (List.mem_of_getElem? (i := 1) (by decide +kernel)), by decide +kernel, by decide +kernel, rfl, rfl⟩
theorem mv_X11_mirror : MOKv yX11_mirror := ⟨lw6 (List.mem_of_getElem? (i := 71) (by decide +kernel)), lw6 (List.mem_of_getElem? (i := 72) (by decide +kernel))⟩
abbrev miX11_heaps : Mi := (RX11, 7, (some .int), { frames := 2, cells := 0, slots := 0, locals := 47 }, "heaps")
theorem mo_X11_heaps : MOK yX11_heaps cX11_heaps miX11_heaps 1 := ⟨lw6 (List.mem_of_getElem? (i := 82) (by decide +kernel)), lw1 (List.mem_of_getElem? (i := 1) (by decide +kernel)), by decide +kernel, by decide +kernel, rfl, rfl⟩
theorem mv_X11_heaps : MOKv yX11_heaps := ⟨lw6 (List.mem_of_getElem? (i := 80) (by decide +kernel)), lw6 (List.mem_of_getElem? (i := 81) (by decide +kernel))⟩
abbrev miX11_heap : Mi := (RX11, 5, (some .int), { frames := 2, cells := 0, slots := 0, locals := 47 }, "heap")
theorem mo_X11_heap : MOK yX11_heap cX11_heap miX11_heap 2 := ⟨lw6 (List.mem_of_getElem? (i := 91) (by decide +kernel)), lw1 (List.mem_of_getElem? (i := 1) (by decide +kernel)), by decide +kernel, by decide +kernel, rfl, rfl⟩
theorem mv_X11_heap : MOKv yX11_heap := ⟨lw6 (List.mem_of_getElem? (i := 89) (by decide +kernel)), lw6 (List.mem_of_getElem? (i := 90) (by decide +kernel))⟩
abbrev miX11_company : Mi := (RX11, 4, (some .boolean), { frames := 2, cells := 0, slots := 0, locals := 48 }, "company")
theorem mo_X11_company : MOK yX11_company cX11_company miX11_company 0 := ⟨lw6 (List.mem_of_getElem? (i := 95) (by decide +kernel)), lw1 (List.mem_of_getElem? (i := 1) (by decide +kernel)), by decide +kernel, by decide +kernel, rfl, rfl⟩
theorem mv_X11_company : MOKv yX11_company := ⟨lw6 (List.mem_of_getElem? (i := 93) (by decide +kernel)), lw6 (List.mem_of_getElem? (i := 94) (by decide +kernel))⟩
abbrev miX11_live : Mi := (RX11, 2, (some .int), { frames := 6, cells := 0, slots := 0, locals := 160 }, "live")
theorem mo_X11_live : MOK yX11_live cX11_live miX11_live 1 := ⟨lw6 (List.mem_of_getElem? (i := 107) (by decide +kernel)), lw1 (List.mem_of_getElem? (i := 1) (by decide +kernel)), by decide +kernel, by decide +kernel, rfl, rfl⟩
theorem mv_X11_live : MOKv yX11_live := ⟨lw6 (List.mem_of_getElem? (i := 105) (by decide +kernel)), lw6 (List.mem_of_getElem? (i := 106) (by decide +kernel))⟩
abbrev miX11_lived : Mi := (RX11, 2, (some .int), { frames := 1, cells := 0, slots := 0, locals := 21 }, "lived")
theorem mo_X11_lived : MOK yX11_lived cX11_lived miX11_lived 1 := ⟨lw6 (List.mem_of_getElem? (i := 150) (by decide +kernel)), lw1 (List.mem_of_getElem? (i := 1) (by decide +kernel)), by decide +kernel, by decide +kernel, rfl, rfl⟩
theorem mv_X11_lived : MOKv yX11_lived := ⟨lw6 (List.mem_of_getElem? (i := 148) (by decide +kernel)), lw6 (List.mem_of_getElem? (i := 149) (by decide +kernel))⟩
abbrev miX11_mean : Mi := (RX11, 5, (some .boolean), { frames := 6, cells := 0, slots := 0, locals := 160 }, "mean")
theorem mo_X11_mean : MOK yX11_mean cX11_mean miX11_mean 2 := ⟨lw6 (List.mem_of_getElem? (i := 154) (by decide +kernel)), lw1 (List.mem_of_getElem? (i := 1) (by decide +kernel)), by decide +kernel, by decide +kernel, rfl, rfl⟩
theorem mv_X11_mean : MOKv yX11_mean := ⟨lw6 (List.mem_of_getElem? (i := 152) (by decide +kernel)), lw6 (List.mem_of_getElem? (i := 153) (by decide +kernel))⟩
abbrev miX11_mark : Mi := (RX11, 1, (some .int), { frames := 3, cells := 0, slots := 0, locals := 68 }, "mark")
theorem mo_X11_mark : MOK yX11_mark cX11_mark miX11_mark 0 := ⟨lw6 (List.mem_of_getElem? (i := 168) (by decide +kernel)), lw1 (List.mem_of_getElem? (i := 1) (by decide +kernel)), by decide +kernel, by decide +kernel, rfl, rfl⟩
theorem mv_X11_mark : MOKv yX11_mark := ⟨lw6 (List.mem_of_getElem? (i := 166) (by decide +kernel)), lw6 (List.mem_of_getElem? (i := 167) (by decide +kernel))⟩
abbrev miX11_back : Mi := (RX11, 1, (some .int), { frames := 3, cells := 0, slots := 0, locals := 68 }, "back")
theorem mo_X11_back : MOK yX11_back cX11_back miX11_back 0 := ⟨lw6 (List.mem_of_getElem? (i := 172) (by decide +kernel)), lw1 (List.mem_of_getElem? (i := 1) (by decide +kernel)), by decide +kernel, by decide +kernel, rfl, rfl⟩
theorem mv_X11_back : MOKv yX11_back := ⟨lw6 (List.mem_of_getElem? (i := 170) (by decide +kernel)), lw6 (List.mem_of_getElem? (i := 171) (by decide +kernel))⟩
abbrev miX11_answer : Mi := (RX11, 2, (some .int), { frames := 0, cells := 0, slots := 0, locals := 0 }, "answer")
theorem mo_X11_answer : MOK yX11_answer cX11_answer miX11_answer 1 := ⟨lw4 (List.mem_of_getElem? (i := 77) (by decide +kernel)), lw1 (List.mem_of_getElem? (i := 1) (by decide +kernel)), by decide +kernel, by decide +kernel, rfl, rfl⟩
theorem mv_X11_answer : MOKv yX11_answer := ⟨lw4 (List.mem_of_getElem? (i := 76) (by decide +kernel)), lwp (List.mem_of_getElem? (i := 41) (by decide +kernel))⟩
abbrev miX11_refuse : Mi := (RX11, 2, (some .int), { frames := 0, cells := 0, slots := 0, locals := 0 }, "refuse")
theorem mo_X11_refuse : MOK yX11_refuse cX11_refuse miX11_refuse 1 := ⟨lw3 (List.mem_of_getElem? (i := 145) (by decide +kernel)), lw1 (List.mem_of_getElem? (i := 1) (by decide +kernel)), by decide +kernel, by decide +kernel, rfl, rfl⟩
theorem mv_X11_refuse : MOKv yX11_refuse := ⟨lw3 (List.mem_of_getElem? (i := 144) (by decide +kernel)), lwp (List.mem_of_getElem? (i := 13) (by decide +kernel))⟩
abbrev miX11_allow : Mi := (RX11, 1, (some .boolean), { frames := 0, cells := 0, slots := 0, locals := 0 }, "allow")
theorem mo_X11_allow : MOK yX11_allow cX11_allow miX11_allow 0 := ⟨lw3 (List.mem_of_getElem? (i := 114) (by decide +kernel)), lw1 (List.mem_of_getElem? (i := 1) (by decide +kernel)), by decide +kernel, by decide +kernel, rfl, rfl⟩
theorem mv_X11_allow : MOKv yX11_allow := ⟨lw3 (List.mem_of_getElem? (i := 113) (by decide +kernel)), lwp (List.mem_of_getElem? (i := 8) (by decide +kernel))⟩
abbrev miX11_deny : Mi := (RX11, 2, (some .boolean), { frames := 0, cells := 0, slots := 0, locals := 0 }, "deny")
theorem mo_X11_deny : MOK yX11_deny cX11_deny miX11_deny 1 := ⟨lw3 (List.mem_of_getElem? (i := 106) (by decide +kernel)), lw1 (List.mem_of_getElem? (i := 1) (by decide +kernel)), by decide +kernel, by decide +kernel, rfl, rfl⟩
theorem mv_X11_deny : MOKv yX11_deny := ⟨lw3 (List.mem_of_getElem? (i := 105) (by decide +kernel)), lwp (List.mem_of_getElem? (i := 6) (by decide +kernel))⟩
abbrev miX11_whyNotInTray : Mi := (RX11, 3, (some .int), { frames := 1, cells := 0, slots := 0, locals := 23 }, "whyNotInTray")
theorem mo_X11_whyNotInTray : MOK yX11_whyNotInTray cX11_whyNotInTray miX11_whyNotInTray 2 := ⟨lw3 (List.mem_of_getElem? (i := 122) (by decide +kernel)), lw1 (List.mem_of_getElem? (i := 1) (by decide +kernel)), by decide +kernel, by decide +kernel, rfl, rfl⟩
theorem mv_X11_whyNotInTray : MOKv yX11_whyNotInTray := ⟨lw3 (List.mem_of_getElem? (i := 121) (by decide +kernel)), lwp (List.mem_of_getElem? (i := 9) (by decide +kernel))⟩
abbrev miX11_whyNotFree : Mi := (RX11, 4, (some .int), { frames := 1, cells := 0, slots := 0, locals := 22 }, "whyNotFree")
theorem mo_X11_whyNotFree : MOK yX11_whyNotFree cX11_whyNotFree miX11_whyNotFree 2 := ⟨lw4 (List.mem_of_getElem? (i := 202) (by decide +kernel)), lw1 (List.mem_of_getElem? (i := 1) (by decide +kernel)), by decide +kernel, by decide +kernel, rfl, rfl⟩
theorem mv_X11_whyNotFree : MOKv yX11_whyNotFree := ⟨lw4 (List.mem_of_getElem? (i := 201) (by decide +kernel)), lwp (List.mem_of_getElem? (i := 53) (by decide +kernel))⟩
abbrev miX11_isPicture : Mi := (RX11, 2, (some .boolean), { frames := 0, cells := 0, slots := 0, locals := 0 }, "isPicture")
theorem mo_X11_isPicture : MOK yX11_isPicture cX11_isPicture miX11_isPicture 1 := ⟨lw4 (List.mem_of_getElem? (i := 209) (by decide +kernel)), lw1 (List.mem_of_getElem? (i := 1) (by decide +kernel)), by decide +kernel, by decide +kernel, rfl, rfl⟩
theorem ms_X11_isPicture : Cond.static yX11_isPicture ∈ lw_tbl := lw4 (List.mem_of_getElem? (i := 208) (by decide +kernel))
abbrev miX11_isTurnedNights : Mi := (RX11, 1, (some .boolean), { frames := 0, cells := 0, slots := 0, locals := 0 }, "isTurnedNights")
theorem mo_X11_isTurnedNights : MOK yX11_isTurnedNights cX11_isTurnedNights miX11_isTurnedNights 1 := ⟨lw5 (List.mem_of_getElem? (i := 160) (by decide +kernel)), lw1 (List.mem_of_getElem? (i := 1) (by decide +kernel)), by decide +kernel, by decide +kernel, rfl, rfl⟩
theorem ms_X11_isTurnedNights : Cond.static yX11_isTurnedNights ∈ lw_tbl := lw5 (List.mem_of_getElem? (i := 159) (by decide +kernel))
abbrev miX11_tellFraction : Mi := (RX11, 4, none, { frames := 1, cells := 0, slots := 0, locals := 25 }, "tellFraction")
theorem mo_X11_tellFraction : MOK yX11_tellFraction cX11_tellFraction miX11_tellFraction 2 := ⟨lw6 (List.mem_of_getElem? (i := 100) (by decide +kernel)), lw1 (List.mem_of_getElem? (i := 1) (by decide +kernel)), by decide +kernel, by decide +kernel, rfl, rfl⟩
theorem mv_X11_tellFraction : MOKv yX11_tellFraction := ⟨lw6 (List.mem_of_getElem? (i := 99) (by decide +kernel)), lwp (List.mem_of_getElem? (i := 99) (by decide +kernel))⟩
abbrev miX11_commonDivisor : Mi := (RX11, 6, (some .int), { frames := 0, cells := 0, slots := 0, locals := 0 }, "commonDivisor")
theorem mo_X11_commonDivisor : MOK yX11_commonDivisor cX11_commonDivisor miX11_commonDivisor 2 := ⟨lw6 (List.mem_of_getElem? (i := 103) (by decide +kernel)), lw1 (List.mem_of_getElem? (i := 1) (by decide +kernel)), by decide +kernel, by decide +kernel, rfl, rfl⟩
theorem ms_X11_commonDivisor : Cond.static yX11_commonDivisor ∈ lw_tbl := lw6 (List.mem_of_getElem? (i := 102) (by decide +kernel))
abbrev miX12_init : Mi := (RX12, 1, none, { frames := 1, cells := 16, slots := 14884, locals := 22 }, "<init>")
theorem mo_X12_init : MOK yX12_init cX12_init miX12_init 0 := ⟨lw6 (List.mem_of_getElem? (i := 177) (by decide +kernel)), lw1 (List.mem_of_getElem? (i := 16) (by decide +kernel)), by decide +kernel, by decide +kernel, rfl, rfl⟩
theorem mj_X12_init : MOKi yX12_init := ⟨rfl, lw6 (List.mem_of_getElem? (i := 176) (by decide +kernel))⟩
abbrev miX12_plain : Mi := (RX12, 3, none, { frames := 0, cells := 0, slots := 0, locals := 0 }, "plain")
theorem mo_X12_plain : MOK yX12_plain cX12_plain miX12_plain 1 := ⟨lw6 (List.mem_of_getElem? (i := 182) (by decide +kernel)), lw1 (List.mem_of_getElem? (i := 16) (by decide +kernel)), by decide +kernel, by decide +kernel, rfl, rfl⟩
theorem mv_X12_plain : MOKv yX12_plain := ⟨lw6 (List.mem_of_getElem? (i := 181) (by decide +kernel)), lwp (List.mem_of_getElem? (i := 110) (by decide +kernel))⟩
abbrev miX12_status : Mi := (RX12, 1, (some .int), { frames := 0, cells := 0, slots := 0, locals := 0 }, "status")
theorem mo_X12_status : MOK yX12_status cX12_status miX12_status 0 := ⟨lw7 (List.mem_of_getElem? (i := 64) (by decide +kernel)), lw1 (List.mem_of_getElem? (i := 16) (by decide +kernel)), by decide +kernel, by decide +kernel, rfl, rfl⟩
theorem mv_X12_status : MOKv yX12_status := ⟨lw7 (List.mem_of_getElem? (i := 62) (by decide +kernel)), lw7 (List.mem_of_getElem? (i := 63) (by decide +kernel))⟩
abbrev miX12_top : Mi := (RX12, 1, (some .long), { frames := 0, cells := 0, slots := 0, locals := 0 }, "top")
theorem mo_X12_top : MOK yX12_top cX12_top miX12_top 0 := ⟨lw7 (List.mem_of_getElem? (i := 68) (by decide +kernel)), lw1 (List.mem_of_getElem? (i := 16) (by decide +kernel)), by decide +kernel, by decide +kernel, rfl, rfl⟩
theorem mv_X12_top : MOKv yX12_top := ⟨lw7 (List.mem_of_getElem? (i := 66) (by decide +kernel)), lw7 (List.mem_of_getElem? (i := 67) (by decide +kernel))⟩
abbrev miX12_bottom : Mi := (RX12, 1, (some .long), { frames := 0, cells := 0, slots := 0, locals := 0 }, "bottom")
theorem mo_X12_bottom : MOK yX12_bottom cX12_bottom miX12_bottom 0 := ⟨lw7 (List.mem_of_getElem? (i := 72) (by decide +kernel)), lw1 (List.mem_of_getElem? (i := 16) (by decide +kernel)), by decide +kernel, by decide +kernel, rfl, rfl⟩
theorem mv_X12_bottom : MOKv yX12_bottom := ⟨lw7 (List.mem_of_getElem? (i := 70) (by decide +kernel)), lw7 (List.mem_of_getElem? (i := 71) (by decide +kernel))⟩
abbrev miX12_is : Mi := (RX12, 2, (some .boolean), { frames := 0, cells := 0, slots := 0, locals := 0 }, "is")
theorem mo_X12_is : MOK yX12_is cX12_is miX12_is 1 := ⟨lw7 (List.mem_of_getElem? (i := 83) (by decide +kernel)), lw1 (List.mem_of_getElem? (i := 16) (by decide +kernel)), by decide +kernel, by decide +kernel, rfl, rfl⟩
theorem mv_X12_is : MOKv yX12_is := ⟨lw7 (List.mem_of_getElem? (i := 82) (by decide +kernel)), lwp (List.mem_of_getElem? (i := 111) (by decide +kernel))⟩
abbrev miX12_refuse : Mi := (RX12, 2, (some .int), { frames := 0, cells := 0, slots := 0, locals := 0 }, "refuse")
theorem mo_X12_refuse : MOK yX12_refuse cX12_refuse miX12_refuse 1 := ⟨lw7 (List.mem_of_getElem? (i := 143) (by decide +kernel)), lw1 (List.mem_of_getElem? (i := 16) (by decide +kernel)), by decide +kernel, by decide +kernel, rfl, rfl⟩
theorem mv_X12_refuse : MOKv yX12_refuse := ⟨lw7 (List.mem_of_getElem? (i := 142) (by decide +kernel)), lwp (List.mem_of_getElem? (i := 117) (by decide +kernel))⟩
abbrev miX12_gives : Mi := (RX12, 2, (some .int), { frames := 0, cells := 0, slots := 0, locals := 0 }, "gives")
theorem mo_X12_gives : MOK yX12_gives cX12_gives miX12_gives 1 := ⟨lw7 (List.mem_of_getElem? (i := 228) (by decide +kernel)), lw1 (List.mem_of_getElem? (i := 16) (by decide +kernel)), by decide +kernel, by decide +kernel, rfl, rfl⟩
theorem mv_X12_gives : MOKv yX12_gives := ⟨lw7 (List.mem_of_getElem? (i := 227) (by decide +kernel)), lwp (List.mem_of_getElem? (i := 136) (by decide +kernel))⟩
abbrev miX12_givesLong : Mi := (RX12, 3, (some .long), { frames := 0, cells := 0, slots := 0, locals := 0 }, "givesLong")
theorem mo_X12_givesLong : MOK yX12_givesLong cX12_givesLong miX12_givesLong 1 := ⟨lw8 (List.mem_of_getElem? (i := 28) (by decide +kernel)), lw1 (List.mem_of_getElem? (i := 16) (by decide +kernel)), by decide +kernel, by decide +kernel, rfl, rfl⟩
theorem mv_X12_givesLong : MOKv yX12_givesLong := ⟨lw8 (List.mem_of_getElem? (i := 27) (by decide +kernel)), lwp (List.mem_of_getElem? (i := 143) (by decide +kernel))⟩
abbrev miX12_orNone : Mi := (RX12, 2, (some .int), { frames := 1, cells := 0, slots := 0, locals := 21 }, "orNone")
theorem mo_X12_orNone : MOK yX12_orNone cX12_orNone miX12_orNone 1 := ⟨lw8 (List.mem_of_getElem? (i := 20) (by decide +kernel)), lw1 (List.mem_of_getElem? (i := 16) (by decide +kernel)), by decide +kernel, by decide +kernel, rfl, rfl⟩
theorem mv_X12_orNone : MOKv yX12_orNone := ⟨lw8 (List.mem_of_getElem? (i := 19) (by decide +kernel)), lwp (List.mem_of_getElem? (i := 142) (by decide +kernel))⟩
abbrev miX12_tellsBy : Mi := (RX12, 11, (some .boolean), { frames := 1, cells := 0, slots := 0, locals := 21 }, "tellsBy")
theorem mo_X12_tellsBy : MOK yX12_tellsBy cX12_tellsBy miX12_tellsBy 2 := ⟨lw9 (List.mem_of_getElem? (i := 95) (by decide +kernel)), lw1 (List.mem_of_getElem? (i := 16) (by decide +kernel)), by decide +kernel, by decide +kernel, rfl, rfl⟩
theorem mv_X12_tellsBy : MOKv yX12_tellsBy := ⟨lw9 (List.mem_of_getElem? (i := 94) (by decide +kernel)), lwp (List.mem_of_getElem? (i := 176) (by decide +kernel))⟩
abbrev miX12_isTray : Mi := (RX12, 1, (some .boolean), { frames := 0, cells := 0, slots := 0, locals := 0 }, "isTray")
theorem mo_X12_isTray : MOK yX12_isTray cX12_isTray miX12_isTray 1 := ⟨lw7 (List.mem_of_getElem? (i := 79) (by decide +kernel)), lw1 (List.mem_of_getElem? (i := 16) (by decide +kernel)), by decide +kernel, by decide +kernel, rfl, rfl⟩
theorem ms_X12_isTray : Cond.static yX12_isTray ∈ lw_tbl := lw7 (List.mem_of_getElem? (i := 78) (by decide +kernel))
abbrev miX12_cut : Mi := (RX12, 3, (some .long), { frames := 0, cells := 0, slots := 0, locals := 0 }, "cut")
theorem mo_X12_cut : MOK yX12_cut cX12_cut miX12_cut 2 := ⟨lw7 (List.mem_of_getElem? (i := 94) (by decide +kernel)), lw1 (List.mem_of_getElem? (i := 16) (by decide +kernel)), by decide +kernel, by decide +kernel, rfl, rfl⟩
theorem ms_X12_cut : Cond.static yX12_cut ∈ lw_tbl := lw7 (List.mem_of_getElem? (i := 93) (by decide +kernel))
abbrev miX12_tray : Mi := (RX12, 5, (some .boolean), { frames := 1, cells := 0, slots := 0, locals := 21 }, "tray")
theorem mo_X12_tray : MOK yX12_tray cX12_tray miX12_tray 3 := ⟨lw7 (List.mem_of_getElem? (i := 76) (by decide +kernel)), lw1 (List.mem_of_getElem? (i := 16) (by decide +kernel)), by decide +kernel, by decide +kernel, rfl, rfl⟩
theorem mv_X12_tray : MOKv yX12_tray := ⟨lw7 (List.mem_of_getElem? (i := 74) (by decide +kernel)), lw7 (List.mem_of_getElem? (i := 75) (by decide +kernel))⟩
abbrev miX12_wrongPlace : Mi := (RX12, 3, (some .int), { frames := 1, cells := 0, slots := 0, locals := 20 }, "wrongPlace")
theorem mo_X12_wrongPlace : MOK yX12_wrongPlace cX12_wrongPlace miX12_wrongPlace 2 := ⟨lw7 (List.mem_of_getElem? (i := 91) (by decide +kernel)), lw1 (List.mem_of_getElem? (i := 16) (by decide +kernel)), by decide +kernel, by decide +kernel, rfl, rfl⟩
theorem mv_X12_wrongPlace : MOKv yX12_wrongPlace := ⟨lw7 (List.mem_of_getElem? (i := 90) (by decide +kernel)), lwp (List.mem_of_getElem? (i := 112) (by decide +kernel))⟩
abbrev miX12_write : Mi := (RX12, 6, (some .boolean), { frames := 2, cells := 0, slots := 0, locals := 42 }, "write")
theorem mo_X12_write : MOK yX12_write cX12_write miX12_write 3 := ⟨lw7 (List.mem_of_getElem? (i := 87) (by decide +kernel)), lw1 (List.mem_of_getElem? (i := 16) (by decide +kernel)), by decide +kernel, by decide +kernel, rfl, rfl⟩
theorem mv_X12_write : MOKv yX12_write := ⟨lw7 (List.mem_of_getElem? (i := 85) (by decide +kernel)), lw7 (List.mem_of_getElem? (i := 86) (by decide +kernel))⟩
abbrev miX12_read : Mi := (RX12, 3, (some .long), { frames := 2, cells := 0, slots := 0, locals := 42 }, "read")
theorem mo_X12_read : MOK yX12_read cX12_read miX12_read 2 := ⟨lw7 (List.mem_of_getElem? (i := 98) (by decide +kernel)), lw1 (List.mem_of_getElem? (i := 16) (by decide +kernel)), by decide +kernel, by decide +kernel, rfl, rfl⟩
theorem mv_X12_read : MOKv yX12_read := ⟨lw7 (List.mem_of_getElem? (i := 96) (by decide +kernel)), lw7 (List.mem_of_getElem? (i := 97) (by decide +kernel))⟩
abbrev miX12_pour : Mi := (RX12, 8, (some .boolean), { frames := 1, cells := 0, slots := 0, locals := 21 }, "pour")
theorem mo_X12_pour : MOK yX12_pour cX12_pour miX12_pour 5 := ⟨lw7 (List.mem_of_getElem? (i := 103) (by decide +kernel)), lw1 (List.mem_of_getElem? (i := 16) (by decide +kernel)), by decide +kernel, by decide +kernel, rfl, rfl⟩
theorem mv_X12_pour : MOKv yX12_pour := ⟨lw7 (List.mem_of_getElem? (i := 101) (by decide +kernel)), lw7 (List.mem_of_getElem? (i := 102) (by decide +kernel))⟩
abbrev miX12_isFrom : Mi := (RX12, 6, (some .boolean), { frames := 0, cells := 0, slots := 0, locals := 0 }, "isFrom")
theorem mo_X12_isFrom : MOK yX12_isFrom cX12_isFrom miX12_isFrom 3 := ⟨lw8 (List.mem_of_getElem? (i := 84) (by decide +kernel)), lw1 (List.mem_of_getElem? (i := 16) (by decide +kernel)), by decide +kernel, by decide +kernel, rfl, rfl⟩
theorem ms_X12_isFrom : Cond.static yX12_isFrom ∈ lw_tbl := lw8 (List.mem_of_getElem? (i := 83) (by decide +kernel))
abbrev miX12_feed : Mi := (RX12, 6, (some .int), { frames := 1, cells := 0, slots := 0, locals := 22 }, "feed")
theorem mo_X12_feed : MOK yX12_feed cX12_feed miX12_feed 5 := ⟨lw7 (List.mem_of_getElem? (i := 107) (by decide +kernel)), lw1 (List.mem_of_getElem? (i := 16) (by decide +kernel)), by decide +kernel, by decide +kernel, rfl, rfl⟩
theorem mv_X12_feed : MOKv yX12_feed := ⟨lw7 (List.mem_of_getElem? (i := 105) (by decide +kernel)), lw7 (List.mem_of_getElem? (i := 106) (by decide +kernel))⟩
abbrev miX12_four : Mi := (RX12, 3, none, { frames := 0, cells := 0, slots := 0, locals := 0 }, "four")
theorem mo_X12_four : MOK yX12_four cX12_four miX12_four 1 := ⟨lw7 (List.mem_of_getElem? (i := 111) (by decide +kernel)), lw1 (List.mem_of_getElem? (i := 16) (by decide +kernel)), by decide +kernel, by decide +kernel, rfl, rfl⟩
theorem mv_X12_four : MOKv yX12_four := ⟨lw7 (List.mem_of_getElem? (i := 110) (by decide +kernel)), lwp (List.mem_of_getElem? (i := 113) (by decide +kernel))⟩
abbrev miX12_byteAt : Mi := (RX12, 2, (some .int), { frames := 0, cells := 0, slots := 0, locals := 0 }, "byteAt")
theorem mo_X12_byteAt : MOK yX12_byteAt cX12_byteAt miX12_byteAt 1 := ⟨lw7 (List.mem_of_getElem? (i := 131) (by decide +kernel)), lw1 (List.mem_of_getElem? (i := 16) (by decide +kernel)), by decide +kernel, by decide +kernel, rfl, rfl⟩
theorem mv_X12_byteAt : MOKv yX12_byteAt := ⟨lw7 (List.mem_of_getElem? (i := 130) (by decide +kernel)), lwp (List.mem_of_getElem? (i := 116) (by decide +kernel))⟩
abbrev miX12_isSmall : Mi := (RX12, 1, (some .boolean), { frames := 0, cells := 0, slots := 0, locals := 0 }, "isSmall")
theorem mo_X12_isSmall : MOK yX12_isSmall cX12_isSmall miX12_isSmall 1 := ⟨lw7 (List.mem_of_getElem? (i := 134) (by decide +kernel)), lw1 (List.mem_of_getElem? (i := 16) (by decide +kernel)), by decide +kernel, by decide +kernel, rfl, rfl⟩
theorem ms_X12_isSmall : Cond.static yX12_isSmall ∈ lw_tbl := lw7 (List.mem_of_getElem? (i := 133) (by decide +kernel))
abbrev miX12_isDigit : Mi := (RX12, 1, (some .boolean), { frames := 0, cells := 0, slots := 0, locals := 0 }, "isDigit")
theorem mo_X12_isDigit : MOK yX12_isDigit cX12_isDigit miX12_isDigit 1 := ⟨lw7 (List.mem_of_getElem? (i := 137) (by decide +kernel)), lw1 (List.mem_of_getElem? (i := 16) (by decide +kernel)), by decide +kernel, by decide +kernel, rfl, rfl⟩
theorem ms_X12_isDigit : Cond.static yX12_isDigit ∈ lw_tbl := lw7 (List.mem_of_getElem? (i := 136) (by decide +kernel))
abbrev miX12_onward : Mi := (RX12, 2, none, { frames := 1, cells := 0, slots := 0, locals := 21 }, "onward")
theorem mo_X12_onward : MOK yX12_onward cX12_onward miX12_onward 0 := ⟨lw7 (List.mem_of_getElem? (i := 127) (by decide +kernel)), lw1 (List.mem_of_getElem? (i := 16) (by decide +kernel)), by decide +kernel, by decide +kernel, rfl, rfl⟩
theorem mv_X12_onward : MOKv yX12_onward := ⟨lw7 (List.mem_of_getElem? (i := 126) (by decide +kernel)), lwp (List.mem_of_getElem? (i := 115) (by decide +kernel))⟩
abbrev miX12_isSign : Mi := (RX12, 2, (some .boolean), { frames := 0, cells := 0, slots := 0, locals := 0 }, "isSign")
theorem mo_X12_isSign : MOK yX12_isSign cX12_isSign miX12_isSign 1 := ⟨lw7 (List.mem_of_getElem? (i := 178) (by decide +kernel)), lw1 (List.mem_of_getElem? (i := 16) (by decide +kernel)), by decide +kernel, by decide +kernel, rfl, rfl⟩
theorem mv_X12_isSign : MOKv yX12_isSign := ⟨lw7 (List.mem_of_getElem? (i := 177) (by decide +kernel)), lwp (List.mem_of_getElem? (i := 125) (by decide +kernel))⟩
abbrev miX12_inWords : Mi := (RX12, 7, (some .int), { frames := 5, cells := 0, slots := 0, locals := 106 }, "inWords")
theorem mo_X12_inWords : MOK yX12_inWords cX12_inWords miX12_inWords 1 := ⟨lw7 (List.mem_of_getElem? (i := 156) (by decide +kernel)), lw1 (List.mem_of_getElem? (i := 16) (by decide +kernel)), by decide +kernel, by decide +kernel, rfl, rfl⟩
theorem mv_X12_inWords : MOKv yX12_inWords := ⟨lw7 (List.mem_of_getElem? (i := 155) (by decide +kernel)), lwp (List.mem_of_getElem? (i := 120) (by decide +kernel))⟩
abbrev miX12_fails : Mi := (RX12, 2, (some .boolean), { frames := 0, cells := 0, slots := 0, locals := 0 }, "fails")
theorem mo_X12_fails : MOK yX12_fails cX12_fails miX12_fails 1 := ⟨lw7 (List.mem_of_getElem? (i := 162) (by decide +kernel)), lw1 (List.mem_of_getElem? (i := 16) (by decide +kernel)), by decide +kernel, by decide +kernel, rfl, rfl⟩
theorem mv_X12_fails : MOKv yX12_fails := ⟨lw7 (List.mem_of_getElem? (i := 161) (by decide +kernel)), lwp (List.mem_of_getElem? (i := 121) (by decide +kernel))⟩
abbrev miX12_begins : Mi := (RX12, 4, (some .boolean), { frames := 2, cells := 0, slots := 0, locals := 42 }, "begins")
theorem mo_X12_begins : MOK yX12_begins cX12_begins miX12_begins 2 := ⟨lw7 (List.mem_of_getElem? (i := 123) (by decide +kernel)), lw1 (List.mem_of_getElem? (i := 16) (by decide +kernel)), by decide +kernel, by decide +kernel, rfl, rfl⟩
theorem mv_X12_begins : MOKv yX12_begins := ⟨lw7 (List.mem_of_getElem? (i := 122) (by decide +kernel)), lwp (List.mem_of_getElem? (i := 114) (by decide +kernel))⟩
abbrev miX12_wantSign : Mi := (RX12, 2, (some .boolean), { frames := 2, cells := 0, slots := 0, locals := 42 }, "wantSign")
theorem mo_X12_wantSign : MOK yX12_wantSign cX12_wantSign miX12_wantSign 1 := ⟨lw7 (List.mem_of_getElem? (i := 174) (by decide +kernel)), lw1 (List.mem_of_getElem? (i := 16) (by decide +kernel)), by decide +kernel, by decide +kernel, rfl, rfl⟩
theorem mv_X12_wantSign : MOKv yX12_wantSign := ⟨lw7 (List.mem_of_getElem? (i := 173) (by decide +kernel)), lwp (List.mem_of_getElem? (i := 124) (by decide +kernel))⟩
abbrev miX12_wantWord : Mi := (RX12, 3, (some .boolean), { frames := 6, cells := 0, slots := 0, locals := 132 }, "wantWord")
theorem mo_X12_wantWord : MOK yX12_wantWord cX12_wantWord miX12_wantWord 2 := ⟨lw7 (List.mem_of_getElem? (i := 152) (by decide +kernel)), lw1 (List.mem_of_getElem? (i := 16) (by decide +kernel)), by decide +kernel, by decide +kernel, rfl, rfl⟩
theorem mv_X12_wantWord : MOKv yX12_wantWord := ⟨lw7 (List.mem_of_getElem? (i := 151) (by decide +kernel)), lwp (List.mem_of_getElem? (i := 119) (by decide +kernel))⟩
abbrev miX12_number : Mi := (RX12, 4, (some .boolean), { frames := 2, cells := 0, slots := 0, locals := 42 }, "number")
theorem mo_X12_number : MOK yX12_number cX12_number miX12_number 3 := ⟨lw7 (List.mem_of_getElem? (i := 166) (by decide +kernel)), lw1 (List.mem_of_getElem? (i := 16) (by decide +kernel)), by decide +kernel, by decide +kernel, rfl, rfl⟩
theorem mv_X12_number : MOKv yX12_number := ⟨lw7 (List.mem_of_getElem? (i := 165) (by decide +kernel)), lwp (List.mem_of_getElem? (i := 122) (by decide +kernel))⟩
abbrev miX12_isName : Mi := (RX12, 2, (some .boolean), { frames := 6, cells := 0, slots := 0, locals := 132 }, "isName")
theorem mo_X12_isName : MOK yX12_isName cX12_isName miX12_isName 1 := ⟨lw7 (List.mem_of_getElem? (i := 201) (by decide +kernel)), lw1 (List.mem_of_getElem? (i := 16) (by decide +kernel)), by decide +kernel, by decide +kernel, rfl, rfl⟩
theorem mv_X12_isName : MOKv yX12_isName := ⟨lw7 (List.mem_of_getElem? (i := 200) (by decide +kernel)), lwp (List.mem_of_getElem? (i := 130) (by decide +kernel))⟩
abbrev miX12_nameHere : Mi := (RX12, 4, (some .long), { frames := 1, cells := 0, slots := 0, locals := 21 }, "nameHere")
theorem mo_X12_nameHere : MOK yX12_nameHere cX12_nameHere miX12_nameHere 0 := ⟨lw7 (List.mem_of_getElem? (i := 209) (by decide +kernel)), lw1 (List.mem_of_getElem? (i := 16) (by decide +kernel)), by decide +kernel, by decide +kernel, rfl, rfl⟩
theorem mv_X12_nameHere : MOKv yX12_nameHere := ⟨lw7 (List.mem_of_getElem? (i := 208) (by decide +kernel)), lwp (List.mem_of_getElem? (i := 132) (by decide +kernel))⟩
abbrev miX12_findHere : Mi := (RX12, 4, (some .int), { frames := 2, cells := 0, slots := 0, locals := 44 }, "findHere")
theorem mo_X12_findHere : MOK yX12_findHere cX12_findHere miX12_findHere 2 := ⟨lw7 (List.mem_of_getElem? (i := 205) (by decide +kernel)), lw1 (List.mem_of_getElem? (i := 16) (by decide +kernel)), by decide +kernel, by decide +kernel, rfl, rfl⟩
theorem mv_X12_findHere : MOKv yX12_findHere := ⟨lw7 (List.mem_of_getElem? (i := 204) (by decide +kernel)), lwp (List.mem_of_getElem? (i := 131) (by decide +kernel))⟩
abbrev miX12_fault : Mi := (RX12, 2, (some .int), { frames := 0, cells := 0, slots := 0, locals := 0 }, "fault")
theorem mo_X12_fault : MOK yX12_fault cX12_fault miX12_fault 1 := ⟨lw7 (List.mem_of_getElem? (i := 115) (by decide +kernel)), lw1 (List.mem_of_getElem? (i := 16) (by decide +kernel)), by decide +kernel, by decide +kernel, rfl, rfl⟩
theorem mv_X12_fault : MOKv yX12_fault := ⟨lw7 (List.mem_of_getElem? (i := 113) (by decide +kernel)), lw7 (List.mem_of_getElem? (i := 114) (by decide +kernel))⟩
abbrev miX12_taken : Mi := (RX12, 2, (some .int), { frames := 1, cells := 0, slots := 0, locals := 21 }, "taken")
theorem mo_X12_taken : MOK yX12_taken cX12_taken miX12_taken 1 := ⟨lw7 (List.mem_of_getElem? (i := 224) (by decide +kernel)), lw1 (List.mem_of_getElem? (i := 16) (by decide +kernel)), by decide +kernel, by decide +kernel, rfl, rfl⟩
theorem mv_X12_taken : MOKv yX12_taken := ⟨lw7 (List.mem_of_getElem? (i := 223) (by decide +kernel)), lwp (List.mem_of_getElem? (i := 135) (by decide +kernel))⟩
abbrev miX12_oldRule : Mi := (RX12, 2, (some .boolean), { frames := 7, cells := 0, slots := 0, locals := 153 }, "oldRule")
theorem mo_X12_oldRule : MOK yX12_oldRule cX12_oldRule miX12_oldRule 1 := ⟨lw8 (List.mem_of_getElem? (i := 8) (by decide +kernel)), lw1 (List.mem_of_getElem? (i := 16) (by decide +kernel)), by decide +kernel, by decide +kernel, rfl, rfl⟩
theorem mv_X12_oldRule : MOKv yX12_oldRule := ⟨lw8 (List.mem_of_getElem? (i := 7) (by decide +kernel)), lwp (List.mem_of_getElem? (i := 140) (by decide +kernel))⟩
abbrev miX12_isThere : Mi := (RX12, 2, (some .boolean), { frames := 6, cells := 0, slots := 0, locals := 132 }, "isThere")
theorem mo_X12_isThere : MOK yX12_isThere cX12_isThere miX12_isThere 1 := ⟨lw7 (List.mem_of_getElem? (i := 170) (by decide +kernel)), lw1 (List.mem_of_getElem? (i := 16) (by decide +kernel)), by decide +kernel, by decide +kernel, rfl, rfl⟩
theorem mv_X12_isThere : MOKv yX12_isThere := ⟨lw7 (List.mem_of_getElem? (i := 169) (by decide +kernel)), lwp (List.mem_of_getElem? (i := 123) (by decide +kernel))⟩
abbrev miX12_newOne : Mi := (RX12, 4, (some .boolean), { frames := 7, cells := 0, slots := 0, locals := 153 }, "newOne")
theorem mo_X12_newOne : MOK yX12_newOne cX12_newOne miX12_newOne 3 := ⟨lw7 (List.mem_of_getElem? (i := 197) (by decide +kernel)), lw1 (List.mem_of_getElem? (i := 16) (by decide +kernel)), by decide +kernel, by decide +kernel, rfl, rfl⟩
theorem mv_X12_newOne : MOKv yX12_newOne := ⟨lw7 (List.mem_of_getElem? (i := 196) (by decide +kernel)), lwp (List.mem_of_getElem? (i := 129) (by decide +kernel))⟩
abbrev miX12_first : Mi := (RX12, 1, (some .boolean), { frames := 7, cells := 0, slots := 0, locals := 154 }, "first")
theorem mo_X12_first : MOK yX12_first cX12_first miX12_first 0 := ⟨lw7 (List.mem_of_getElem? (i := 147) (by decide +kernel)), lw1 (List.mem_of_getElem? (i := 16) (by decide +kernel)), by decide +kernel, by decide +kernel, rfl, rfl⟩
theorem mv_X12_first : MOKv yX12_first := ⟨lw7 (List.mem_of_getElem? (i := 146) (by decide +kernel)), lwp (List.mem_of_getElem? (i := 118) (by decide +kernel))⟩
abbrev miX12_isLamp : Mi := (RX12, 1, (some .boolean), { frames := 0, cells := 0, slots := 0, locals := 0 }, "isLamp")
theorem mo_X12_isLamp : MOK yX12_isLamp cX12_isLamp miX12_isLamp 1 := ⟨lw7 (List.mem_of_getElem? (i := 185) (by decide +kernel)), lw1 (List.mem_of_getElem? (i := 16) (by decide +kernel)), by decide +kernel, by decide +kernel, rfl, rfl⟩
theorem ms_X12_isLamp : Cond.static yX12_isLamp ∈ lw_tbl := lw7 (List.mem_of_getElem? (i := 184) (by decide +kernel))
abbrev miX12_aRow : Mi := (RX12, 4, (some .boolean), { frames := 3, cells := 0, slots := 0, locals := 63 }, "aRow")
theorem mo_X12_aRow : MOK yX12_aRow cX12_aRow miX12_aRow 0 := ⟨lw7 (List.mem_of_getElem? (i := 182) (by decide +kernel)), lw1 (List.mem_of_getElem? (i := 16) (by decide +kernel)), by decide +kernel, by decide +kernel, rfl, rfl⟩
theorem mv_X12_aRow : MOKv yX12_aRow := ⟨lw7 (List.mem_of_getElem? (i := 181) (by decide +kernel)), lwp (List.mem_of_getElem? (i := 126) (by decide +kernel))⟩
abbrev miX12_neighbours : Mi := (RX12, 2, (some .boolean), { frames := 2, cells := 0, slots := 0, locals := 42 }, "neighbours")
theorem mo_X12_neighbours : MOK yX12_neighbours cX12_neighbours miX12_neighbours 1 := ⟨lw7 (List.mem_of_getElem? (i := 213) (by decide +kernel)), lw1 (List.mem_of_getElem? (i := 16) (by decide +kernel)), by decide +kernel, by decide +kernel, rfl, rfl⟩
theorem mv_X12_neighbours : MOKv yX12_neighbours := ⟨lw7 (List.mem_of_getElem? (i := 212) (by decide +kernel)), lwp (List.mem_of_getElem? (i := 133) (by decide +kernel))⟩
abbrev miX12_aRule : Mi := (RX12, 2, (some .boolean), { frames := 8, cells := 0, slots := 0, locals := 176 }, "aRule")
theorem mo_X12_aRule : MOK yX12_aRule cX12_aRule miX12_aRule 0 := ⟨lw7 (List.mem_of_getElem? (i := 193) (by decide +kernel)), lw1 (List.mem_of_getElem? (i := 16) (by decide +kernel)), by decide +kernel, by decide +kernel, rfl, rfl⟩
theorem mv_X12_aRule : MOKv yX12_aRule := ⟨lw7 (List.mem_of_getElem? (i := 192) (by decide +kernel)), lwp (List.mem_of_getElem? (i := 128) (by decide +kernel))⟩
abbrev miX12_aCitizen : Mi := (RX12, 2, (some .boolean), { frames := 8, cells := 0, slots := 0, locals := 176 }, "aCitizen")
theorem mo_X12_aCitizen : MOK yX12_aCitizen cX12_aCitizen miX12_aCitizen 0 := ⟨lw7 (List.mem_of_getElem? (i := 217) (by decide +kernel)), lw1 (List.mem_of_getElem? (i := 16) (by decide +kernel)), by decide +kernel, by decide +kernel, rfl, rfl⟩
theorem mv_X12_aCitizen : MOKv yX12_aCitizen := ⟨lw7 (List.mem_of_getElem? (i := 216) (by decide +kernel)), lwp (List.mem_of_getElem? (i := 134) (by decide +kernel))⟩
abbrev miX12_townPart : Mi := (RX12, 2, (some .boolean), { frames := 9, cells := 0, slots := 0, locals := 197 }, "townPart")
theorem mo_X12_townPart : MOK yX12_townPart cX12_townPart miX12_townPart 0 := ⟨lw7 (List.mem_of_getElem? (i := 189) (by decide +kernel)), lw1 (List.mem_of_getElem? (i := 16) (by decide +kernel)), by decide +kernel, by decide +kernel, rfl, rfl⟩
theorem mv_X12_townPart : MOKv yX12_townPart := ⟨lw7 (List.mem_of_getElem? (i := 188) (by decide +kernel)), lwp (List.mem_of_getElem? (i := 127) (by decide +kernel))⟩
abbrev miX12_town : Mi := (RX12, 4, (some .int), { frames := 10, cells := 0, slots := 0, locals := 218 }, "town")
theorem mo_X12_town : MOK yX12_town cX12_town miX12_town 1 := ⟨lw7 (List.mem_of_getElem? (i := 119) (by decide +kernel)), lw1 (List.mem_of_getElem? (i := 16) (by decide +kernel)), by decide +kernel, by decide +kernel, rfl, rfl⟩
theorem mv_X12_town : MOKv yX12_town := ⟨lw7 (List.mem_of_getElem? (i := 117) (by decide +kernel)), lw7 (List.mem_of_getElem? (i := 118) (by decide +kernel))⟩
abbrev miX12_placeTo : Mi := (RX12, 2, (some .boolean), { frames := 3, cells := 0, slots := 0, locals := 65 }, "placeTo")
theorem mo_X12_placeTo : MOK yX12_placeTo cX12_placeTo miX12_placeTo 1 := ⟨lw8 (List.mem_of_getElem? (i := 4) (by decide +kernel)), lw1 (List.mem_of_getElem? (i := 16) (by decide +kernel)), by decide +kernel, by decide +kernel, rfl, rfl⟩
theorem mv_X12_placeTo : MOKv yX12_placeTo := ⟨lw8 (List.mem_of_getElem? (i := 3) (by decide +kernel)), lwp (List.mem_of_getElem? (i := 139) (by decide +kernel))⟩
abbrev miX12_test : Mi := (RX12, 3, (some .boolean), { frames := 6, cells := 0, slots := 0, locals := 132 }, "test")
theorem mo_X12_test : MOK yX12_test cX12_test miX12_test 1 := ⟨lw8 (List.mem_of_getElem? (i := 12) (by decide +kernel)), lw1 (List.mem_of_getElem? (i := 16) (by decide +kernel)), by decide +kernel, by decide +kernel, rfl, rfl⟩
theorem mv_X12_test : MOKv yX12_test := ⟨lw8 (List.mem_of_getElem? (i := 11) (by decide +kernel)), lwp (List.mem_of_getElem? (i := 141) (by decide +kernel))⟩
abbrev miX12_yearOrder : Mi := (RX12, 3, (some .boolean), { frames := 8, cells := 0, slots := 0, locals := 174 }, "yearOrder")
theorem mo_X12_yearOrder : MOK yX12_yearOrder cX12_yearOrder miX12_yearOrder 2 := ⟨lw8 (List.mem_of_getElem? (i := 0) (by decide +kernel)), lw1 (List.mem_of_getElem? (i := 16) (by decide +kernel)), by decide +kernel, by decide +kernel, rfl, rfl⟩
theorem mv_X12_yearOrder : MOKv yX12_yearOrder := ⟨lw7 (List.mem_of_getElem? (i := 239) (by decide +kernel)), lwp (List.mem_of_getElem? (i := 138) (by decide +kernel))⟩
abbrev miX12_yearStep : Mi := (RX12, 6, (some .boolean), { frames := 9, cells := 0, slots := 0, locals := 196 }, "yearStep")
theorem mo_X12_yearStep : MOK yX12_yearStep cX12_yearStep miX12_yearStep 0 := ⟨lw7 (List.mem_of_getElem? (i := 236) (by decide +kernel)), lw1 (List.mem_of_getElem? (i := 16) (by decide +kernel)), by decide +kernel, by decide +kernel, rfl, rfl⟩
theorem mv_X12_yearStep : MOKv yX12_yearStep := ⟨lw7 (List.mem_of_getElem? (i := 235) (by decide +kernel)), lwp (List.mem_of_getElem? (i := 137) (by decide +kernel))⟩
abbrev miX12_year : Mi := (RX12, 4, (some .int), { frames := 10, cells := 0, slots := 0, locals := 221 }, "year")
theorem mo_X12_year : MOK yX12_year cX12_year miX12_year 1 := ⟨lw7 (List.mem_of_getElem? (i := 232) (by decide +kernel)), lw1 (List.mem_of_getElem? (i := 16) (by decide +kernel)), by decide +kernel, by decide +kernel, rfl, rfl⟩
theorem mv_X12_year : MOKv yX12_year := ⟨lw7 (List.mem_of_getElem? (i := 230) (by decide +kernel)), lw7 (List.mem_of_getElem? (i := 231) (by decide +kernel))⟩
abbrev miX12_bits : Mi := (RX12, 3, (some .int), { frames := 0, cells := 0, slots := 0, locals := 0 }, "bits")
theorem mo_X12_bits : MOK yX12_bits cX12_bits miX12_bits 1 := ⟨lw7 (List.mem_of_getElem? (i := 220) (by decide +kernel)), lw1 (List.mem_of_getElem? (i := 16) (by decide +kernel)), by decide +kernel, by decide +kernel, rfl, rfl⟩
theorem ms_X12_bits : Cond.static yX12_bits ∈ lw_tbl := lw7 (List.mem_of_getElem? (i := 219) (by decide +kernel))
abbrev miX12_isPlace : Mi := (RX12, 3, (some .boolean), { frames := 0, cells := 0, slots := 0, locals := 0 }, "isPlace")
theorem mo_X12_isPlace : MOK yX12_isPlace cX12_isPlace miX12_isPlace 2 := ⟨lw8 (List.mem_of_getElem? (i := 40) (by decide +kernel)), lw1 (List.mem_of_getElem? (i := 16) (by decide +kernel)), by decide +kernel, by decide +kernel, rfl, rfl⟩
theorem mv_X12_isPlace : MOKv yX12_isPlace := ⟨lw8 (List.mem_of_getElem? (i := 39) (by decide +kernel)), lwp (List.mem_of_getElem? (i := 145) (by decide +kernel))⟩
abbrev miX12_bitOf : Mi := (RX12, 3, (some .int), { frames := 0, cells := 0, slots := 0, locals := 0 }, "bitOf")
theorem mo_X12_bitOf : MOK yX12_bitOf cX12_bitOf miX12_bitOf 2 := ⟨lw8 (List.mem_of_getElem? (i := 44) (by decide +kernel)), lw1 (List.mem_of_getElem? (i := 16) (by decide +kernel)), by decide +kernel, by decide +kernel, rfl, rfl⟩
theorem mv_X12_bitOf : MOKv yX12_bitOf := ⟨lw8 (List.mem_of_getElem? (i := 43) (by decide +kernel)), lwp (List.mem_of_getElem? (i := 146) (by decide +kernel))⟩
abbrev miX12_wrongHouse : Mi := (RX12, 3, (some .int), { frames := 1, cells := 0, slots := 0, locals := 22 }, "wrongHouse")
theorem mo_X12_wrongHouse : MOK yX12_wrongHouse cX12_wrongHouse miX12_wrongHouse 2 := ⟨lw8 (List.mem_of_getElem? (i := 36) (by decide +kernel)), lw1 (List.mem_of_getElem? (i := 16) (by decide +kernel)), by decide +kernel, by decide +kernel, rfl, rfl⟩
theorem mv_X12_wrongHouse : MOKv yX12_wrongHouse := ⟨lw8 (List.mem_of_getElem? (i := 35) (by decide +kernel)), lwp (List.mem_of_getElem? (i := 144) (by decide +kernel))⟩
abbrev miX12_wrongLamp : Mi := (RX12, 3, (some .int), { frames := 2, cells := 0, slots := 0, locals := 44 }, "wrongLamp")
theorem mo_X12_wrongLamp : MOK yX12_wrongLamp cX12_wrongLamp miX12_wrongLamp 2 := ⟨lw8 (List.mem_of_getElem? (i := 76) (by decide +kernel)), lw1 (List.mem_of_getElem? (i := 16) (by decide +kernel)), by decide +kernel, by decide +kernel, rfl, rfl⟩
theorem mv_X12_wrongLamp : MOKv yX12_wrongLamp := ⟨lw8 (List.mem_of_getElem? (i := 75) (by decide +kernel)), lwp (List.mem_of_getElem? (i := 151) (by decide +kernel))⟩
abbrev miX12_places : Mi := (RX12, 1, (some .int), { frames := 0, cells := 0, slots := 0, locals := 0 }, "places")
theorem mo_X12_places : MOK yX12_places cX12_places miX12_places 0 := ⟨lw8 (List.mem_of_getElem? (i := 52) (by decide +kernel)), lw1 (List.mem_of_getElem? (i := 16) (by decide +kernel)), by decide +kernel, by decide +kernel, rfl, rfl⟩
theorem mv_X12_places : MOKv yX12_places := ⟨lw8 (List.mem_of_getElem? (i := 51) (by decide +kernel)), lwp (List.mem_of_getElem? (i := 148) (by decide +kernel))⟩
abbrev miX12_free : Mi := (RX12, 1, (some .int), { frames := 0, cells := 0, slots := 0, locals := 0 }, "free")
theorem mo_X12_free : MOK yX12_free cX12_free miX12_free 0 := ⟨lw8 (List.mem_of_getElem? (i := 92) (by decide +kernel)), lw1 (List.mem_of_getElem? (i := 16) (by decide +kernel)), by decide +kernel, by decide +kernel, rfl, rfl⟩
theorem mv_X12_free : MOKv yX12_free := ⟨lw8 (List.mem_of_getElem? (i := 91) (by decide +kernel)), lwp (List.mem_of_getElem? (i := 153) (by decide +kernel))⟩
abbrev miX12_whole : Mi := (RX12, 1, (some .int), { frames := 1, cells := 0, slots := 0, locals := 20 }, "whole")
theorem mo_X12_whole : MOK yX12_whole cX12_whole miX12_whole 0 := ⟨lw9 (List.mem_of_getElem? (i := 14) (by decide +kernel)), lw1 (List.mem_of_getElem? (i := 16) (by decide +kernel)), by decide +kernel, by decide +kernel, rfl, rfl⟩
theorem mv_X12_whole : MOKv yX12_whole := ⟨lw9 (List.mem_of_getElem? (i := 13) (by decide +kernel)), lwp (List.mem_of_getElem? (i := 170) (by decide +kernel))⟩
abbrev miX12_near : Mi := (RX12, 5, (some .int), { frames := 1, cells := 0, slots := 0, locals := 20 }, "near")
theorem mo_X12_near : MOK yX12_near cX12_near miX12_near 1 := ⟨lw8 (List.mem_of_getElem? (i := 48) (by decide +kernel)), lw1 (List.mem_of_getElem? (i := 16) (by decide +kernel)), by decide +kernel, by decide +kernel, rfl, rfl⟩
theorem mv_X12_near : MOKv yX12_near := ⟨lw8 (List.mem_of_getElem? (i := 47) (by decide +kernel)), lwp (List.mem_of_getElem? (i := 147) (by decide +kernel))⟩
abbrev miX12_laysNear : Mi := (RX12, 2, none, { frames := 2, cells := 0, slots := 0, locals := 44 }, "laysNear")
theorem mo_X12_laysNear : MOK yX12_laysNear cX12_laysNear miX12_laysNear 0 := ⟨lw8 (List.mem_of_getElem? (i := 126) (by decide +kernel)), lw1 (List.mem_of_getElem? (i := 16) (by decide +kernel)), by decide +kernel, by decide +kernel, rfl, rfl⟩
theorem mv_X12_laysNear : MOKv yX12_laysNear := ⟨lw8 (List.mem_of_getElem? (i := 125) (by decide +kernel)), lwp (List.mem_of_getElem? (i := 156) (by decide +kernel))⟩
abbrev miX12_becomes : Mi := (RX12, 7, (some .int), { frames := 1, cells := 0, slots := 0, locals := 22 }, "becomes")
theorem mo_X12_becomes : MOK yX12_becomes cX12_becomes miX12_becomes 2 := ⟨lw8 (List.mem_of_getElem? (i := 130) (by decide +kernel)), lw1 (List.mem_of_getElem? (i := 16) (by decide +kernel)), by decide +kernel, by decide +kernel, rfl, rfl⟩
theorem mv_X12_becomes : MOKv yX12_becomes := ⟨lw8 (List.mem_of_getElem? (i := 129) (by decide +kernel)), lwp (List.mem_of_getElem? (i := 157) (by decide +kernel))⟩
abbrev miX12_after : Mi := (RX12, 5, (some .int), { frames := 3, cells := 0, slots := 0, locals := 65 }, "after")
theorem mo_X12_after : MOK yX12_after cX12_after miX12_after 2 := ⟨lw8 (List.mem_of_getElem? (i := 138) (by decide +kernel)), lw1 (List.mem_of_getElem? (i := 16) (by decide +kernel)), by decide +kernel, by decide +kernel, rfl, rfl⟩
theorem mv_X12_after : MOKv yX12_after := ⟨lw8 (List.mem_of_getElem? (i := 137) (by decide +kernel)), lwp (List.mem_of_getElem? (i := 158) (by decide +kernel))⟩
abbrev miX12_told : Mi := (RX12, 2, (some .int), { frames := 2, cells := 0, slots := 0, locals := 42 }, "told")
theorem mo_X12_told : MOK yX12_told cX12_told miX12_told 1 := ⟨lw8 (List.mem_of_getElem? (i := 16) (by decide +kernel)), lw1 (List.mem_of_getElem? (i := 16) (by decide +kernel)), by decide +kernel, by decide +kernel, rfl, rfl⟩
theorem mv_X12_told : MOKv yX12_told := ⟨lw8 (List.mem_of_getElem? (i := 14) (by decide +kernel)), lw8 (List.mem_of_getElem? (i := 15) (by decide +kernel))⟩
abbrev miX12_picture : Mi := (RX12, 1, (some .long), { frames := 1, cells := 0, slots := 0, locals := 22 }, "picture")
theorem mo_X12_picture : MOK yX12_picture cX12_picture miX12_picture 0 := ⟨lw8 (List.mem_of_getElem? (i := 24) (by decide +kernel)), lw1 (List.mem_of_getElem? (i := 16) (by decide +kernel)), by decide +kernel, by decide +kernel, rfl, rfl⟩
theorem mv_X12_picture : MOKv yX12_picture := ⟨lw8 (List.mem_of_getElem? (i := 22) (by decide +kernel)), lw8 (List.mem_of_getElem? (i := 23) (by decide +kernel))⟩
abbrev miX12_lamp : Mi := (RX12, 7, (some .int), { frames := 2, cells := 0, slots := 0, locals := 44 }, "lamp")
theorem mo_X12_lamp : MOK yX12_lamp cX12_lamp miX12_lamp 3 := ⟨lw8 (List.mem_of_getElem? (i := 32) (by decide +kernel)), lw1 (List.mem_of_getElem? (i := 16) (by decide +kernel)), by decide +kernel, by decide +kernel, rfl, rfl⟩
theorem mv_X12_lamp : MOKv yX12_lamp := ⟨lw8 (List.mem_of_getElem? (i := 30) (by decide +kernel)), lw8 (List.mem_of_getElem? (i := 31) (by decide +kernel))⟩
abbrev miX12_isRule : Mi := (RX12, 2, (some .boolean), { frames := 0, cells := 0, slots := 0, locals := 0 }, "isRule")
theorem mo_X12_isRule : MOK yX12_isRule cX12_isRule miX12_isRule 1 := ⟨lw8 (List.mem_of_getElem? (i := 60) (by decide +kernel)), lw1 (List.mem_of_getElem? (i := 16) (by decide +kernel)), by decide +kernel, by decide +kernel, rfl, rfl⟩
theorem mv_X12_isRule : MOKv yX12_isRule := ⟨lw8 (List.mem_of_getElem? (i := 59) (by decide +kernel)), lwp (List.mem_of_getElem? (i := 149) (by decide +kernel))⟩
abbrev miX12_rule : Mi := (RX12, 3, (some .int), { frames := 1, cells := 0, slots := 0, locals := 21 }, "rule")
theorem mo_X12_rule : MOK yX12_rule cX12_rule miX12_rule 2 := ⟨lw8 (List.mem_of_getElem? (i := 56) (by decide +kernel)), lw1 (List.mem_of_getElem? (i := 16) (by decide +kernel)), by decide +kernel, by decide +kernel, rfl, rfl⟩
theorem mv_X12_rule : MOKv yX12_rule := ⟨lw8 (List.mem_of_getElem? (i := 54) (by decide +kernel)), lw8 (List.mem_of_getElem? (i := 55) (by decide +kernel))⟩
abbrev miX12_isCitizen : Mi := (RX12, 2, (some .boolean), { frames := 0, cells := 0, slots := 0, locals := 0 }, "isCitizen")
theorem mo_X12_isCitizen : MOK yX12_isCitizen cX12_isCitizen miX12_isCitizen 1 := ⟨lw8 (List.mem_of_getElem? (i := 68) (by decide +kernel)), lw1 (List.mem_of_getElem? (i := 16) (by decide +kernel)), by decide +kernel, by decide +kernel, rfl, rfl⟩
theorem mv_X12_isCitizen : MOKv yX12_isCitizen := ⟨lw8 (List.mem_of_getElem? (i := 67) (by decide +kernel)), lwp (List.mem_of_getElem? (i := 150) (by decide +kernel))⟩
abbrev miX12_citizen : Mi := (RX12, 3, (some .int), { frames := 1, cells := 0, slots := 0, locals := 21 }, "citizen")
theorem mo_X12_citizen : MOK yX12_citizen cX12_citizen miX12_citizen 2 := ⟨lw8 (List.mem_of_getElem? (i := 64) (by decide +kernel)), lw1 (List.mem_of_getElem? (i := 16) (by decide +kernel)), by decide +kernel, by decide +kernel, rfl, rfl⟩
theorem mv_X12_citizen : MOKv yX12_citizen := ⟨lw8 (List.mem_of_getElem? (i := 62) (by decide +kernel)), lw8 (List.mem_of_getElem? (i := 63) (by decide +kernel))⟩
abbrev miX12_turn : Mi := (RX12, 4, (some .int), { frames := 3, cells := 0, slots := 0, locals := 66 }, "turn")
theorem mo_X12_turn : MOK yX12_turn cX12_turn miX12_turn 2 := ⟨lw8 (List.mem_of_getElem? (i := 72) (by decide +kernel)), lw1 (List.mem_of_getElem? (i := 16) (by decide +kernel)), by decide +kernel, by decide +kernel, rfl, rfl⟩
theorem mv_X12_turn : MOKv yX12_turn := ⟨lw8 (List.mem_of_getElem? (i := 70) (by decide +kernel)), lw8 (List.mem_of_getElem? (i := 71) (by decide +kernel))⟩
abbrev miX12_paints : Mi := (RX12, 2, (some .int), { frames := 1, cells := 0, slots := 0, locals := 22 }, "paints")
theorem mo_X12_paints : MOK yX12_paints cX12_paints miX12_paints 1 := ⟨lw8 (List.mem_of_getElem? (i := 88) (by decide +kernel)), lw1 (List.mem_of_getElem? (i := 16) (by decide +kernel)), by decide +kernel, by decide +kernel, rfl, rfl⟩
theorem mv_X12_paints : MOKv yX12_paints := ⟨lw8 (List.mem_of_getElem? (i := 87) (by decide +kernel)), lwp (List.mem_of_getElem? (i := 152) (by decide +kernel))⟩
abbrev miX12_paint : Mi := (RX12, 3, (some .int), { frames := 2, cells := 0, slots := 0, locals := 43 }, "paint")
theorem mo_X12_paint : MOK yX12_paint cX12_paint miX12_paint 1 := ⟨lw8 (List.mem_of_getElem? (i := 80) (by decide +kernel)), lw1 (List.mem_of_getElem? (i := 16) (by decide +kernel)), by decide +kernel, by decide +kernel, rfl, rfl⟩
theorem mv_X12_paint : MOKv yX12_paint := ⟨lw8 (List.mem_of_getElem? (i := 78) (by decide +kernel)), lw8 (List.mem_of_getElem? (i := 79) (by decide +kernel))⟩
abbrev miX12_paintRows : Mi := (RX12, 4, (some .int), { frames := 2, cells := 0, slots := 0, locals := 43 }, "paintRows")
theorem mo_X12_paintRows : MOK yX12_paintRows cX12_paintRows miX12_paintRows 1 := ⟨lw8 (List.mem_of_getElem? (i := 96) (by decide +kernel)), lw1 (List.mem_of_getElem? (i := 16) (by decide +kernel)), by decide +kernel, by decide +kernel, rfl, rfl⟩
theorem mv_X12_paintRows : MOKv yX12_paintRows := ⟨lw8 (List.mem_of_getElem? (i := 94) (by decide +kernel)), lw8 (List.mem_of_getElem? (i := 95) (by decide +kernel))⟩
abbrev miX12_rowOf : Mi := (RX12, 3, (some .int), { frames := 0, cells := 0, slots := 0, locals := 0 }, "rowOf")
theorem mo_X12_rowOf : MOK yX12_rowOf cX12_rowOf miX12_rowOf 2 := ⟨lw8 (List.mem_of_getElem? (i := 105) (by decide +kernel)), lw1 (List.mem_of_getElem? (i := 16) (by decide +kernel)), by decide +kernel, by decide +kernel, rfl, rfl⟩
theorem mv_X12_rowOf : MOKv yX12_rowOf := ⟨lw8 (List.mem_of_getElem? (i := 104) (by decide +kernel)), lwp (List.mem_of_getElem? (i := 154) (by decide +kernel))⟩
abbrev miX12_copyRows : Mi := (RX12, 3, (some .int), { frames := 1, cells := 0, slots := 0, locals := 22 }, "copyRows")
theorem mo_X12_copyRows : MOK yX12_copyRows cX12_copyRows miX12_copyRows 1 := ⟨lw8 (List.mem_of_getElem? (i := 101) (by decide +kernel)), lw1 (List.mem_of_getElem? (i := 16) (by decide +kernel)), by decide +kernel, by decide +kernel, rfl, rfl⟩
theorem mv_X12_copyRows : MOKv yX12_copyRows := ⟨lw8 (List.mem_of_getElem? (i := 99) (by decide +kernel)), lw8 (List.mem_of_getElem? (i := 100) (by decide +kernel))⟩
abbrev miX12_mayor : Mi := (RX12, 2, (some .boolean), { frames := 1, cells := 0, slots := 0, locals := 21 }, "mayor")
theorem mo_X12_mayor : MOK yX12_mayor cX12_mayor miX12_mayor 1 := ⟨lw8 (List.mem_of_getElem? (i := 109) (by decide +kernel)), lw1 (List.mem_of_getElem? (i := 16) (by decide +kernel)), by decide +kernel, by decide +kernel, rfl, rfl⟩
theorem mv_X12_mayor : MOKv yX12_mayor := ⟨lw8 (List.mem_of_getElem? (i := 107) (by decide +kernel)), lw8 (List.mem_of_getElem? (i := 108) (by decide +kernel))⟩
abbrev miX12_bend : Mi := (RX12, 4, (some .boolean), { frames := 1, cells := 0, slots := 0, locals := 25 }, "bend")
theorem mo_X12_bend : MOK yX12_bend cX12_bend miX12_bend 3 := ⟨lw8 (List.mem_of_getElem? (i := 113) (by decide +kernel)), lw1 (List.mem_of_getElem? (i := 16) (by decide +kernel)), by decide +kernel, by decide +kernel, rfl, rfl⟩
theorem mv_X12_bend : MOKv yX12_bend := ⟨lw8 (List.mem_of_getElem? (i := 111) (by decide +kernel)), lw8 (List.mem_of_getElem? (i := 112) (by decide +kernel))⟩
abbrev miX12_goes : Mi := (RX12, 3, none, { frames := 3, cells := 0, slots := 0, locals := 65 }, "goes")
theorem mo_X12_goes : MOK yX12_goes cX12_goes miX12_goes 0 := ⟨lw8 (List.mem_of_getElem? (i := 122) (by decide +kernel)), lw1 (List.mem_of_getElem? (i := 16) (by decide +kernel)), by decide +kernel, by decide +kernel, rfl, rfl⟩
theorem mv_X12_goes : MOKv yX12_goes := ⟨lw8 (List.mem_of_getElem? (i := 121) (by decide +kernel)), lwp (List.mem_of_getElem? (i := 155) (by decide +kernel))⟩
abbrev miX12_night : Mi := (RX12, 3, (some .int), { frames := 4, cells := 0, slots := 0, locals := 87 }, "night")
theorem mo_X12_night : MOK yX12_night cX12_night miX12_night 1 := ⟨lw8 (List.mem_of_getElem? (i := 117) (by decide +kernel)), lw1 (List.mem_of_getElem? (i := 16) (by decide +kernel)), by decide +kernel, by decide +kernel, rfl, rfl⟩
theorem mv_X12_night : MOKv yX12_night := ⟨lw8 (List.mem_of_getElem? (i := 115) (by decide +kernel)), lw8 (List.mem_of_getElem? (i := 116) (by decide +kernel))⟩
abbrev miX12_ahead : Mi := (RX12, 2, (some .long), { frames := 4, cells := 0, slots := 0, locals := 89 }, "ahead")
theorem mo_X12_ahead : MOK yX12_ahead cX12_ahead miX12_ahead 1 := ⟨lw8 (List.mem_of_getElem? (i := 134) (by decide +kernel)), lw1 (List.mem_of_getElem? (i := 16) (by decide +kernel)), by decide +kernel, by decide +kernel, rfl, rfl⟩
theorem mv_X12_ahead : MOKv yX12_ahead := ⟨lw8 (List.mem_of_getElem? (i := 132) (by decide +kernel)), lw8 (List.mem_of_getElem? (i := 133) (by decide +kernel))⟩
abbrev miX12_comesAgain : Mi := (RX12, 3, (some .boolean), { frames := 3, cells := 0, slots := 0, locals := 65 }, "comesAgain")
theorem mo_X12_comesAgain : MOK yX12_comesAgain cX12_comesAgain miX12_comesAgain 0 := ⟨lw8 (List.mem_of_getElem? (i := 146) (by decide +kernel)), lw1 (List.mem_of_getElem? (i := 16) (by decide +kernel)), by decide +kernel, by decide +kernel, rfl, rfl⟩
theorem mv_X12_comesAgain : MOKv yX12_comesAgain := ⟨lw8 (List.mem_of_getElem? (i := 145) (by decide +kernel)), lwp (List.mem_of_getElem? (i := 159) (by decide +kernel))⟩
abbrev miX12_again : Mi := (RX12, 2, (some .int), { frames := 4, cells := 0, slots := 0, locals := 87 }, "again")
theorem mo_X12_again : MOK yX12_again cX12_again miX12_again 1 := ⟨lw8 (List.mem_of_getElem? (i := 142) (by decide +kernel)), lw1 (List.mem_of_getElem? (i := 16) (by decide +kernel)), by decide +kernel, by decide +kernel, rfl, rfl⟩
theorem mv_X12_again : MOKv yX12_again := ⟨lw8 (List.mem_of_getElem? (i := 140) (by decide +kernel)), lw8 (List.mem_of_getElem? (i := 141) (by decide +kernel))⟩
abbrev miX12_far : Mi := (RX12, 2, (some .long), { frames := 4, cells := 0, slots := 0, locals := 87 }, "far")
theorem mo_X12_far : MOK yX12_far cX12_far miX12_far 1 := ⟨lw8 (List.mem_of_getElem? (i := 150) (by decide +kernel)), lw1 (List.mem_of_getElem? (i := 16) (by decide +kernel)), by decide +kernel, by decide +kernel, rfl, rfl⟩
theorem mv_X12_far : MOKv yX12_far := ⟨lw8 (List.mem_of_getElem? (i := 148) (by decide +kernel)), lw8 (List.mem_of_getElem? (i := 149) (by decide +kernel))⟩
abbrev miX12_moved : Mi := (RX12, 8, (some .int), { frames := 1, cells := 0, slots := 0, locals := 22 }, "moved")
theorem mo_X12_moved : MOK yX12_moved cX12_moved miX12_moved 3 := ⟨lw8 (List.mem_of_getElem? (i := 159) (by decide +kernel)), lw1 (List.mem_of_getElem? (i := 16) (by decide +kernel)), by decide +kernel, by decide +kernel, rfl, rfl⟩
theorem mv_X12_moved : MOKv yX12_moved := ⟨lw8 (List.mem_of_getElem? (i := 158) (by decide +kernel)), lwp (List.mem_of_getElem? (i := 160) (by decide +kernel))⟩
abbrev miX12_walks : Mi := (RX12, 6, (some .int), { frames := 3, cells := 0, slots := 0, locals := 65 }, "walks")
theorem mo_X12_walks : MOK yX12_walks cX12_walks miX12_walks 1 := ⟨lw8 (List.mem_of_getElem? (i := 155) (by decide +kernel)), lw1 (List.mem_of_getElem? (i := 16) (by decide +kernel)), by decide +kernel, by decide +kernel, rfl, rfl⟩
theorem mv_X12_walks : MOKv yX12_walks := ⟨lw8 (List.mem_of_getElem? (i := 153) (by decide +kernel)), lw8 (List.mem_of_getElem? (i := 154) (by decide +kernel))⟩
abbrev miX12_isStill : Mi := (RX12, 1, (some .boolean), { frames := 4, cells := 0, slots := 0, locals := 89 }, "isStill")
theorem mo_X12_isStill : MOK yX12_isStill cX12_isStill miX12_isStill 0 := ⟨lw8 (List.mem_of_getElem? (i := 167) (by decide +kernel)), lw1 (List.mem_of_getElem? (i := 16) (by decide +kernel)), by decide +kernel, by decide +kernel, rfl, rfl⟩
theorem mv_X12_isStill : MOKv yX12_isStill := ⟨lw8 (List.mem_of_getElem? (i := 166) (by decide +kernel)), lwp (List.mem_of_getElem? (i := 161) (by decide +kernel))⟩
abbrev miX12_still : Mi := (RX12, 1, (some .int), { frames := 5, cells := 0, slots := 0, locals := 109 }, "still")
theorem mo_X12_still : MOK yX12_still cX12_still miX12_still 0 := ⟨lw8 (List.mem_of_getElem? (i := 163) (by decide +kernel)), lw1 (List.mem_of_getElem? (i := 16) (by decide +kernel)), by decide +kernel, by decide +kernel, rfl, rfl⟩
theorem mv_X12_still : MOKv yX12_still := ⟨lw8 (List.mem_of_getElem? (i := 161) (by decide +kernel)), lw8 (List.mem_of_getElem? (i := 162) (by decide +kernel))⟩
abbrev miX12_next : Mi := (RX12, 3, (some .int), { frames := 4, cells := 0, slots := 0, locals := 89 }, "next")
theorem mo_X12_next : MOK yX12_next cX12_next miX12_next 1 := ⟨lw8 (List.mem_of_getElem? (i := 171) (by decide +kernel)), lw1 (List.mem_of_getElem? (i := 16) (by decide +kernel)), by decide +kernel, by decide +kernel, rfl, rfl⟩
theorem mv_X12_next : MOKv yX12_next := ⟨lw8 (List.mem_of_getElem? (i := 169) (by decide +kernel)), lw8 (List.mem_of_getElem? (i := 170) (by decide +kernel))⟩
abbrev miX12_oil : Mi := (RX12, 5, (some .int), { frames := 3, cells := 0, slots := 0, locals := 65 }, "oil")
theorem mo_X12_oil : MOK yX12_oil cX12_oil miX12_oil 1 := ⟨lw8 (List.mem_of_getElem? (i := 175) (by decide +kernel)), lw1 (List.mem_of_getElem? (i := 16) (by decide +kernel)), by decide +kernel, by decide +kernel, rfl, rfl⟩
theorem mv_X12_oil : MOKv yX12_oil := ⟨lw8 (List.mem_of_getElem? (i := 173) (by decide +kernel)), lw8 (List.mem_of_getElem? (i := 174) (by decide +kernel))⟩
abbrev miX12_brightest : Mi := (RX12, 5, (some .int), { frames := 3, cells := 0, slots := 0, locals := 65 }, "brightest")
theorem mo_X12_brightest : MOK yX12_brightest cX12_brightest miX12_brightest 1 := ⟨lw8 (List.mem_of_getElem? (i := 180) (by decide +kernel)), lw1 (List.mem_of_getElem? (i := 16) (by decide +kernel)), by decide +kernel, by decide +kernel, rfl, rfl⟩
theorem mv_X12_brightest : MOKv yX12_brightest := ⟨lw8 (List.mem_of_getElem? (i := 178) (by decide +kernel)), lw8 (List.mem_of_getElem? (i := 179) (by decide +kernel))⟩
abbrev miX12_fitsRow : Mi := (RX12, 5, (some .boolean), { frames := 1, cells := 0, slots := 0, locals := 22 }, "fitsRow")
theorem mo_X12_fitsRow : MOK yX12_fitsRow cX12_fitsRow miX12_fitsRow 2 := ⟨lw8 (List.mem_of_getElem? (i := 193) (by decide +kernel)), lw1 (List.mem_of_getElem? (i := 16) (by decide +kernel)), by decide +kernel, by decide +kernel, rfl, rfl⟩
theorem mv_X12_fitsRow : MOKv yX12_fitsRow := ⟨lw8 (List.mem_of_getElem? (i := 192) (by decide +kernel)), lwp (List.mem_of_getElem? (i := 163) (by decide +kernel))⟩
abbrev miX12_rowBecomes : Mi := (RX12, 11, (some .int), { frames := 1, cells := 0, slots := 0, locals := 22 }, "rowBecomes")
theorem mo_X12_rowBecomes : MOK yX12_rowBecomes cX12_rowBecomes miX12_rowBecomes 4 := ⟨lw8 (List.mem_of_getElem? (i := 201) (by decide +kernel)), lw1 (List.mem_of_getElem? (i := 16) (by decide +kernel)), by decide +kernel, by decide +kernel, rfl, rfl⟩
theorem mv_X12_rowBecomes : MOKv yX12_rowBecomes := ⟨lw8 (List.mem_of_getElem? (i := 200) (by decide +kernel)), lwp (List.mem_of_getElem? (i := 165) (by decide +kernel))⟩
abbrev miX12_isGood : Mi := (RX12, 6, (some .boolean), { frames := 2, cells := 0, slots := 0, locals := 52 }, "isGood")
theorem mo_X12_isGood : MOK yX12_isGood cX12_isGood miX12_isGood 5 := ⟨lw8 (List.mem_of_getElem? (i := 197) (by decide +kernel)), lw1 (List.mem_of_getElem? (i := 16) (by decide +kernel)), by decide +kernel, by decide +kernel, rfl, rfl⟩
theorem mv_X12_isGood : MOKv yX12_isGood := ⟨lw8 (List.mem_of_getElem? (i := 196) (by decide +kernel)), lwp (List.mem_of_getElem? (i := 164) (by decide +kernel))⟩
abbrev miX12_reckons : Mi := (RX12, 7, (some .long), { frames := 3, cells := 0, slots := 0, locals := 77 }, "reckons")
theorem mo_X12_reckons : MOK yX12_reckons cX12_reckons miX12_reckons 1 := ⟨lw8 (List.mem_of_getElem? (i := 189) (by decide +kernel)), lw1 (List.mem_of_getElem? (i := 16) (by decide +kernel)), by decide +kernel, by decide +kernel, rfl, rfl⟩
theorem mv_X12_reckons : MOKv yX12_reckons := ⟨lw8 (List.mem_of_getElem? (i := 188) (by decide +kernel)), lwp (List.mem_of_getElem? (i := 162) (by decide +kernel))⟩
abbrev miX12_least : Mi := (RX12, 7, (some .long), { frames := 4, cells := 0, slots := 0, locals := 102 }, "least")
theorem mo_X12_least : MOK yX12_least cX12_least miX12_least 1 := ⟨lw8 (List.mem_of_getElem? (i := 209) (by decide +kernel)), lw1 (List.mem_of_getElem? (i := 16) (by decide +kernel)), by decide +kernel, by decide +kernel, rfl, rfl⟩
theorem mv_X12_least : MOKv yX12_least := ⟨lw8 (List.mem_of_getElem? (i := 208) (by decide +kernel)), lwp (List.mem_of_getElem? (i := 166) (by decide +kernel))⟩
abbrev miX12_aboveOf : Mi := (RX12, 6, (some .int), { frames := 3, cells := 0, slots := 0, locals := 77 }, "aboveOf")
theorem mo_X12_aboveOf : MOK yX12_aboveOf cX12_aboveOf miX12_aboveOf 4 := ⟨lw8 (List.mem_of_getElem? (i := 213) (by decide +kernel)), lw1 (List.mem_of_getElem? (i := 16) (by decide +kernel)), by decide +kernel, by decide +kernel, rfl, rfl⟩
theorem mv_X12_aboveOf : MOKv yX12_aboveOf := ⟨lw8 (List.mem_of_getElem? (i := 212) (by decide +kernel)), lwp (List.mem_of_getElem? (i := 167) (by decide +kernel))⟩
abbrev miX12_ancestors : Mi := (RX12, 1, (some .long), { frames := 4, cells := 0, slots := 0, locals := 103 }, "ancestors")
theorem mo_X12_ancestors : MOK yX12_ancestors cX12_ancestors miX12_ancestors 0 := ⟨lw8 (List.mem_of_getElem? (i := 185) (by decide +kernel)), lw1 (List.mem_of_getElem? (i := 16) (by decide +kernel)), by decide +kernel, by decide +kernel, rfl, rfl⟩
theorem mv_X12_ancestors : MOKv yX12_ancestors := ⟨lw8 (List.mem_of_getElem? (i := 183) (by decide +kernel)), lw8 (List.mem_of_getElem? (i := 184) (by decide +kernel))⟩
abbrev miX12_ancestor : Mi := (RX12, 1, (some .long), { frames := 5, cells := 0, slots := 0, locals := 128 }, "ancestor")
theorem mo_X12_ancestor : MOK yX12_ancestor cX12_ancestor miX12_ancestor 0 := ⟨lw8 (List.mem_of_getElem? (i := 205) (by decide +kernel)), lw1 (List.mem_of_getElem? (i := 16) (by decide +kernel)), by decide +kernel, by decide +kernel, rfl, rfl⟩
theorem mv_X12_ancestor : MOKv yX12_ancestor := ⟨lw8 (List.mem_of_getElem? (i := 203) (by decide +kernel)), lw8 (List.mem_of_getElem? (i := 204) (by decide +kernel))⟩
abbrev miX12_stills : Mi := (RX12, 1, (some .long), { frames := 4, cells := 0, slots := 0, locals := 103 }, "stills")
theorem mo_X12_stills : MOK yX12_stills cX12_stills miX12_stills 0 := ⟨lw8 (List.mem_of_getElem? (i := 217) (by decide +kernel)), lw1 (List.mem_of_getElem? (i := 16) (by decide +kernel)), by decide +kernel, by decide +kernel, rfl, rfl⟩
theorem mv_X12_stills : MOKv yX12_stills := ⟨lw8 (List.mem_of_getElem? (i := 215) (by decide +kernel)), lw8 (List.mem_of_getElem? (i := 216) (by decide +kernel))⟩
abbrev miX12_firstStill : Mi := (RX12, 1, (some .long), { frames := 5, cells := 0, slots := 0, locals := 128 }, "firstStill")
theorem mo_X12_firstStill : MOK yX12_firstStill cX12_firstStill miX12_firstStill 0 := ⟨lw8 (List.mem_of_getElem? (i := 221) (by decide +kernel)), lw1 (List.mem_of_getElem? (i := 16) (by decide +kernel)), by decide +kernel, by decide +kernel, rfl, rfl⟩
theorem mv_X12_firstStill : MOKv yX12_firstStill := ⟨lw8 (List.mem_of_getElem? (i := 219) (by decide +kernel)), lw8 (List.mem_of_getElem? (i := 220) (by decide +kernel))⟩
abbrev miX12_pictures : Mi := (RX12, 1, (some .long), { frames := 1, cells := 0, slots := 0, locals := 22 }, "pictures")
theorem mo_X12_pictures : MOK yX12_pictures cX12_pictures miX12_pictures 0 := ⟨lw8 (List.mem_of_getElem? (i := 225) (by decide +kernel)), lw1 (List.mem_of_getElem? (i := 16) (by decide +kernel)), by decide +kernel, by decide +kernel, rfl, rfl⟩
theorem mv_X12_pictures : MOKv yX12_pictures := ⟨lw8 (List.mem_of_getElem? (i := 223) (by decide +kernel)), lw8 (List.mem_of_getElem? (i := 224) (by decide +kernel))⟩
abbrev miX12_tries : Mi := (RX12, 7, none, { frames := 2, cells := 0, slots := 0, locals := 48 }, "tries")
theorem mo_X12_tries : MOK yX12_tries cX12_tries miX12_tries 4 := ⟨lw8 (List.mem_of_getElem? (i := 234) (by decide +kernel)), lw1 (List.mem_of_getElem? (i := 16) (by decide +kernel)), by decide +kernel, by decide +kernel, rfl, rfl⟩
theorem mv_X12_tries : MOKv yX12_tries := ⟨lw8 (List.mem_of_getElem? (i := 233) (by decide +kernel)), lwp (List.mem_of_getElem? (i := 168) (by decide +kernel))⟩
abbrev miX12_signal : Mi := (RX12, 11, (some .int), { frames := 3, cells := 0, slots := 0, locals := 74 }, "signal")
theorem mo_X12_signal : MOK yX12_signal cX12_signal miX12_signal 4 := ⟨lw8 (List.mem_of_getElem? (i := 229) (by decide +kernel)), lw1 (List.mem_of_getElem? (i := 16) (by decide +kernel)), by decide +kernel, by decide +kernel, rfl, rfl⟩
theorem mv_X12_signal : MOKv yX12_signal := ⟨lw8 (List.mem_of_getElem? (i := 227) (by decide +kernel)), lw8 (List.mem_of_getElem? (i := 228) (by decide +kernel))⟩
abbrev miX12_spoilsBy : Mi := (RX12, 3, (some .int), { frames := 4, cells := 0, slots := 0, locals := 89 }, "spoilsBy")
theorem mo_X12_spoilsBy : MOK yX12_spoilsBy cX12_spoilsBy miX12_spoilsBy 2 := ⟨lw9 (List.mem_of_getElem? (i := 2) (by decide +kernel)), lw1 (List.mem_of_getElem? (i := 16) (by decide +kernel)), by decide +kernel, by decide +kernel, rfl, rfl⟩
theorem mv_X12_spoilsBy : MOKv yX12_spoilsBy := ⟨lw9 (List.mem_of_getElem? (i := 1) (by decide +kernel)), lwp (List.mem_of_getElem? (i := 169) (by decide +kernel))⟩
abbrev miX12_spoils : Mi := (RX12, 5, (some .int), { frames := 5, cells := 0, slots := 0, locals := 111 }, "spoils")
theorem mo_X12_spoils : MOK yX12_spoils cX12_spoils miX12_spoils 3 := ⟨lw8 (List.mem_of_getElem? (i := 238) (by decide +kernel)), lw1 (List.mem_of_getElem? (i := 16) (by decide +kernel)), by decide +kernel, by decide +kernel, rfl, rfl⟩
theorem mv_X12_spoils : MOKv yX12_spoils := ⟨lw8 (List.mem_of_getElem? (i := 236) (by decide +kernel)), lw8 (List.mem_of_getElem? (i := 237) (by decide +kernel))⟩
abbrev miX12_worst : Mi := (RX12, 7, (some .int), { frames := 5, cells := 0, slots := 0, locals := 111 }, "worst")
theorem mo_X12_worst : MOK yX12_worst cX12_worst miX12_worst 2 := ⟨lw9 (List.mem_of_getElem? (i := 6) (by decide +kernel)), lw1 (List.mem_of_getElem? (i := 16) (by decide +kernel)), by decide +kernel, by decide +kernel, rfl, rfl⟩
theorem mv_X12_worst : MOKv yX12_worst := ⟨lw9 (List.mem_of_getElem? (i := 4) (by decide +kernel)), lw9 (List.mem_of_getElem? (i := 5) (by decide +kernel))⟩
abbrev miX12_mend : Mi := (RX12, 14, (some .int), { frames := 3, cells := 0, slots := 0, locals := 65 }, "mend")
theorem mo_X12_mend : MOK yX12_mend cX12_mend miX12_mend 2 := ⟨lw9 (List.mem_of_getElem? (i := 10) (by decide +kernel)), lw1 (List.mem_of_getElem? (i := 16) (by decide +kernel)), by decide +kernel, by decide +kernel, rfl, rfl⟩
theorem mv_X12_mend : MOKv yX12_mend := ⟨lw9 (List.mem_of_getElem? (i := 8) (by decide +kernel)), lw9 (List.mem_of_getElem? (i := 9) (by decide +kernel))⟩
abbrev miX12_unlike : Mi := (RX12, 3, (some .int), { frames := 2, cells := 0, slots := 0, locals := 40 }, "unlike")
theorem mo_X12_unlike : MOK yX12_unlike cX12_unlike miX12_unlike 1 := ⟨lw9 (List.mem_of_getElem? (i := 18) (by decide +kernel)), lw1 (List.mem_of_getElem? (i := 16) (by decide +kernel)), by decide +kernel, by decide +kernel, rfl, rfl⟩
theorem mv_X12_unlike : MOKv yX12_unlike := ⟨lw9 (List.mem_of_getElem? (i := 16) (by decide +kernel)), lw9 (List.mem_of_getElem? (i := 17) (by decide +kernel))⟩
abbrev miX12_seen : Mi := (RX12, 3, (some .int), { frames := 1, cells := 0, slots := 0, locals := 25 }, "seen")
theorem mo_X12_seen : MOK yX12_seen cX12_seen miX12_seen 2 := ⟨lw9 (List.mem_of_getElem? (i := 22) (by decide +kernel)), lw1 (List.mem_of_getElem? (i := 16) (by decide +kernel)), by decide +kernel, by decide +kernel, rfl, rfl⟩
theorem mv_X12_seen : MOKv yX12_seen := ⟨lw9 (List.mem_of_getElem? (i := 20) (by decide +kernel)), lw9 (List.mem_of_getElem? (i := 21) (by decide +kernel))⟩
abbrev miX12_rulesLeft : Mi := (RX12, 3, (some .int), { frames := 1, cells := 0, slots := 0, locals := 21 }, "rulesLeft")
theorem mo_X12_rulesLeft : MOK yX12_rulesLeft cX12_rulesLeft miX12_rulesLeft 0 := ⟨lw9 (List.mem_of_getElem? (i := 27) (by decide +kernel)), lw1 (List.mem_of_getElem? (i := 16) (by decide +kernel)), by decide +kernel, by decide +kernel, rfl, rfl⟩
theorem mv_X12_rulesLeft : MOKv yX12_rulesLeft := ⟨lw9 (List.mem_of_getElem? (i := 25) (by decide +kernel)), lw9 (List.mem_of_getElem? (i := 26) (by decide +kernel))⟩
abbrev miX12_fits : Mi := (RX12, 6, (some .int), { frames := 1, cells := 0, slots := 0, locals := 21 }, "fits")
theorem mo_X12_fits : MOK yX12_fits cX12_fits miX12_fits 0 := ⟨lw9 (List.mem_of_getElem? (i := 31) (by decide +kernel)), lw1 (List.mem_of_getElem? (i := 16) (by decide +kernel)), by decide +kernel, by decide +kernel, rfl, rfl⟩
theorem mv_X12_fits : MOKv yX12_fits := ⟨lw9 (List.mem_of_getElem? (i := 29) (by decide +kernel)), lw9 (List.mem_of_getElem? (i := 30) (by decide +kernel))⟩
abbrev miX12_forget : Mi := (RX12, 3, (some .int), { frames := 1, cells := 0, slots := 0, locals := 21 }, "forget")
theorem mo_X12_forget : MOK yX12_forget cX12_forget miX12_forget 0 := ⟨lw9 (List.mem_of_getElem? (i := 35) (by decide +kernel)), lw1 (List.mem_of_getElem? (i := 16) (by decide +kernel)), by decide +kernel, by decide +kernel, rfl, rfl⟩
theorem mv_X12_forget : MOKv yX12_forget := ⟨lw9 (List.mem_of_getElem? (i := 33) (by decide +kernel)), lw9 (List.mem_of_getElem? (i := 34) (by decide +kernel))⟩
abbrev miX12_shows : Mi := (RX12, 4, (some .int), { frames := 3, cells := 0, slots := 0, locals := 65 }, "shows")
theorem mo_X12_shows : MOK yX12_shows cX12_shows miX12_shows 0 := ⟨lw9 (List.mem_of_getElem? (i := 39) (by decide +kernel)), lw1 (List.mem_of_getElem? (i := 16) (by decide +kernel)), by decide +kernel, by decide +kernel, rfl, rfl⟩
theorem mv_X12_shows : MOKv yX12_shows := ⟨lw9 (List.mem_of_getElem? (i := 37) (by decide +kernel)), lw9 (List.mem_of_getElem? (i := 38) (by decide +kernel))⟩
abbrev miX12_dislikes : Mi := (RX12, 4, (some .int), { frames := 0, cells := 0, slots := 0, locals := 0 }, "dislikes")
theorem mo_X12_dislikes : MOK yX12_dislikes cX12_dislikes miX12_dislikes 2 := ⟨lw9 (List.mem_of_getElem? (i := 51) (by decide +kernel)), lw1 (List.mem_of_getElem? (i := 16) (by decide +kernel)), by decide +kernel, by decide +kernel, rfl, rfl⟩
theorem mv_X12_dislikes : MOKv yX12_dislikes := ⟨lw9 (List.mem_of_getElem? (i := 50) (by decide +kernel)), lwp (List.mem_of_getElem? (i := 172) (by decide +kernel))⟩
abbrev miX12_voteOf : Mi := (RX12, 6, (some .int), { frames := 3, cells := 0, slots := 0, locals := 65 }, "voteOf")
theorem mo_X12_voteOf : MOK yX12_voteOf cX12_voteOf miX12_voteOf 1 := ⟨lw9 (List.mem_of_getElem? (i := 47) (by decide +kernel)), lw1 (List.mem_of_getElem? (i := 16) (by decide +kernel)), by decide +kernel, by decide +kernel, rfl, rfl⟩
theorem mv_X12_voteOf : MOKv yX12_voteOf := ⟨lw9 (List.mem_of_getElem? (i := 46) (by decide +kernel)), lwp (List.mem_of_getElem? (i := 171) (by decide +kernel))⟩
abbrev miX12_vote : Mi := (RX12, 2, (some .int), { frames := 4, cells := 0, slots := 0, locals := 90 }, "vote")
theorem mo_X12_vote : MOK yX12_vote cX12_vote miX12_vote 1 := ⟨lw9 (List.mem_of_getElem? (i := 43) (by decide +kernel)), lw1 (List.mem_of_getElem? (i := 16) (by decide +kernel)), by decide +kernel, by decide +kernel, rfl, rfl⟩
theorem mv_X12_vote : MOKv yX12_vote := ⟨lw9 (List.mem_of_getElem? (i := 41) (by decide +kernel)), lw9 (List.mem_of_getElem? (i := 42) (by decide +kernel))⟩
abbrev miX12_votesFor : Mi := (RX12, 4, (some .int), { frames := 4, cells := 0, slots := 0, locals := 90 }, "votesFor")
theorem mo_X12_votesFor : MOK yX12_votesFor cX12_votesFor miX12_votesFor 1 := ⟨lw9 (List.mem_of_getElem? (i := 59) (by decide +kernel)), lw1 (List.mem_of_getElem? (i := 16) (by decide +kernel)), by decide +kernel, by decide +kernel, rfl, rfl⟩
theorem mv_X12_votesFor : MOKv yX12_votesFor := ⟨lw9 (List.mem_of_getElem? (i := 58) (by decide +kernel)), lwp (List.mem_of_getElem? (i := 173) (by decide +kernel))⟩
abbrev miX12_votes : Mi := (RX12, 2, (some .int), { frames := 5, cells := 0, slots := 0, locals := 113 }, "votes")
theorem mo_X12_votes : MOK yX12_votes cX12_votes miX12_votes 1 := ⟨lw9 (List.mem_of_getElem? (i := 55) (by decide +kernel)), lw1 (List.mem_of_getElem? (i := 16) (by decide +kernel)), by decide +kernel, by decide +kernel, rfl, rfl⟩
theorem mv_X12_votes : MOKv yX12_votes := ⟨lw9 (List.mem_of_getElem? (i := 53) (by decide +kernel)), lw9 (List.mem_of_getElem? (i := 54) (by decide +kernel))⟩
abbrev miX12_elects : Mi := (RX12, 3, (some .boolean), { frames := 5, cells := 0, slots := 0, locals := 113 }, "elects")
theorem mo_X12_elects : MOK yX12_elects cX12_elects miX12_elects 0 := ⟨lw9 (List.mem_of_getElem? (i := 67) (by decide +kernel)), lw1 (List.mem_of_getElem? (i := 16) (by decide +kernel)), by decide +kernel, by decide +kernel, rfl, rfl⟩
theorem mv_X12_elects : MOKv yX12_elects := ⟨lw9 (List.mem_of_getElem? (i := 66) (by decide +kernel)), lwp (List.mem_of_getElem? (i := 174) (by decide +kernel))⟩
abbrev miX12_elect : Mi := (RX12, 1, (some .int), { frames := 6, cells := 0, slots := 0, locals := 135 }, "elect")
theorem mo_X12_elect : MOK yX12_elect cX12_elect miX12_elect 0 := ⟨lw9 (List.mem_of_getElem? (i := 63) (by decide +kernel)), lw1 (List.mem_of_getElem? (i := 16) (by decide +kernel)), by decide +kernel, by decide +kernel, rfl, rfl⟩
theorem mv_X12_elect : MOKv yX12_elect := ⟨lw9 (List.mem_of_getElem? (i := 61) (by decide +kernel)), lw9 (List.mem_of_getElem? (i := 62) (by decide +kernel))⟩
abbrev miX12_reads : Mi := (RX12, 5, (some .int), { frames := 1, cells := 0, slots := 0, locals := 22 }, "reads")
theorem mo_X12_reads : MOK yX12_reads cX12_reads miX12_reads 2 := ⟨lw9 (List.mem_of_getElem? (i := 71) (by decide +kernel)), lw1 (List.mem_of_getElem? (i := 16) (by decide +kernel)), by decide +kernel, by decide +kernel, rfl, rfl⟩
theorem mv_X12_reads : MOKv yX12_reads := ⟨lw9 (List.mem_of_getElem? (i := 69) (by decide +kernel)), lw9 (List.mem_of_getElem? (i := 70) (by decide +kernel))⟩
abbrev miX12_mirror : Mi := (RX12, 5, (some .int), { frames := 1, cells := 0, slots := 0, locals := 22 }, "mirror")
theorem mo_X12_mirror : MOK yX12_mirror cX12_mirror miX12_mirror 0 := ⟨lw9 (List.mem_of_getElem? (i := 75) (by decide +kernel)), lw1 (List.mem_of_getElem? (i := 16) (by decide +kernel)), by decide +kernel, by decide +kernel, rfl, rfl⟩
theorem mv_X12_mirror : MOKv yX12_mirror := ⟨lw9 (List.mem_of_getElem? (i := 73) (by decide +kernel)), lw9 (List.mem_of_getElem? (i := 74) (by decide +kernel))⟩
abbrev miX12_heapOf : Mi := (RX12, 5, (some .int), { frames := 1, cells := 0, slots := 0, locals := 20 }, "heapOf")
theorem mo_X12_heapOf : MOK yX12_heapOf cX12_heapOf miX12_heapOf 1 := ⟨lw9 (List.mem_of_getElem? (i := 83) (by decide +kernel)), lw1 (List.mem_of_getElem? (i := 16) (by decide +kernel)), by decide +kernel, by decide +kernel, rfl, rfl⟩
theorem mv_X12_heapOf : MOKv yX12_heapOf := ⟨lw9 (List.mem_of_getElem? (i := 82) (by decide +kernel)), lwp (List.mem_of_getElem? (i := 175) (by decide +kernel))⟩
abbrev miX12_heaps : Mi := (RX12, 6, (some .int), { frames := 3, cells := 0, slots := 0, locals := 65 }, "heaps")
theorem mo_X12_heaps : MOK yX12_heaps cX12_heaps miX12_heaps 1 := ⟨lw9 (List.mem_of_getElem? (i := 79) (by decide +kernel)), lw1 (List.mem_of_getElem? (i := 16) (by decide +kernel)), by decide +kernel, by decide +kernel, rfl, rfl⟩
theorem mv_X12_heaps : MOKv yX12_heaps := ⟨lw9 (List.mem_of_getElem? (i := 77) (by decide +kernel)), lw9 (List.mem_of_getElem? (i := 78) (by decide +kernel))⟩
abbrev miX12_heap : Mi := (RX12, 4, (some .int), { frames := 3, cells := 0, slots := 0, locals := 65 }, "heap")
theorem mo_X12_heap : MOK yX12_heap cX12_heap miX12_heap 2 := ⟨lw9 (List.mem_of_getElem? (i := 87) (by decide +kernel)), lw1 (List.mem_of_getElem? (i := 16) (by decide +kernel)), by decide +kernel, by decide +kernel, rfl, rfl⟩
theorem mv_X12_heap : MOKv yX12_heap := ⟨lw9 (List.mem_of_getElem? (i := 85) (by decide +kernel)), lw9 (List.mem_of_getElem? (i := 86) (by decide +kernel))⟩
abbrev miX12_company : Mi := (RX12, 3, (some .boolean), { frames := 3, cells := 0, slots := 0, locals := 65 }, "company")
theorem mo_X12_company : MOK yX12_company cX12_company miX12_company 0 := ⟨lw9 (List.mem_of_getElem? (i := 91) (by decide +kernel)), lw1 (List.mem_of_getElem? (i := 16) (by decide +kernel)), by decide +kernel, by decide +kernel, rfl, rfl⟩
theorem mv_X12_company : MOKv yX12_company := ⟨lw9 (List.mem_of_getElem? (i := 89) (by decide +kernel)), lw9 (List.mem_of_getElem? (i := 90) (by decide +kernel))⟩
abbrev miX12_draw : Mi := (RX12, 2, (some .int), { frames := 0, cells := 0, slots := 0, locals := 0 }, "draw")
theorem mo_X12_draw : MOK yX12_draw cX12_draw miX12_draw 1 := ⟨lw9 (List.mem_of_getElem? (i := 115) (by decide +kernel)), lw1 (List.mem_of_getElem? (i := 16) (by decide +kernel)), by decide +kernel, by decide +kernel, rfl, rfl⟩
theorem mv_X12_draw : MOKv yX12_draw := ⟨lw9 (List.mem_of_getElem? (i := 114) (by decide +kernel)), lwp (List.mem_of_getElem? (i := 180) (by decide +kernel))⟩
abbrev miX12_storms : Mi := (RX12, 4, (some .boolean), { frames := 1, cells := 0, slots := 0, locals := 21 }, "storms")
theorem mo_X12_storms : MOK yX12_storms cX12_storms miX12_storms 1 := ⟨lw9 (List.mem_of_getElem? (i := 111) (by decide +kernel)), lw1 (List.mem_of_getElem? (i := 16) (by decide +kernel)), by decide +kernel, by decide +kernel, rfl, rfl⟩
theorem mv_X12_storms : MOKv yX12_storms := ⟨lw9 (List.mem_of_getElem? (i := 110) (by decide +kernel)), lwp (List.mem_of_getElem? (i := 179) (by decide +kernel))⟩
abbrev miX12_isBorn : Mi := (RX12, 3, (some .boolean), { frames := 1, cells := 0, slots := 0, locals := 22 }, "isBorn")
theorem mo_X12_isBorn : MOK yX12_isBorn cX12_isBorn miX12_isBorn 0 := ⟨lw9 (List.mem_of_getElem? (i := 120) (by decide +kernel)), lw1 (List.mem_of_getElem? (i := 16) (by decide +kernel)), by decide +kernel, by decide +kernel, rfl, rfl⟩
theorem mv_X12_isBorn : MOKv yX12_isBorn := ⟨lw9 (List.mem_of_getElem? (i := 119) (by decide +kernel)), lwp (List.mem_of_getElem? (i := 181) (by decide +kernel))⟩
abbrev miX12_does : Mi := (RX12, 4, (some .boolean), { frames := 6, cells := 0, slots := 0, locals := 135 }, "does")
theorem mo_X12_does : MOK yX12_does cX12_does miX12_does 1 := ⟨lw9 (List.mem_of_getElem? (i := 107) (by decide +kernel)), lw1 (List.mem_of_getElem? (i := 16) (by decide +kernel)), by decide +kernel, by decide +kernel, rfl, rfl⟩
theorem mv_X12_does : MOKv yX12_does := ⟨lw9 (List.mem_of_getElem? (i := 106) (by decide +kernel)), lwp (List.mem_of_getElem? (i := 178) (by decide +kernel))⟩
abbrev miX12_holds : Mi := (RX12, 4, (some .boolean), { frames := 5, cells := 0, slots := 0, locals := 109 }, "holds")
theorem mo_X12_holds : MOK yX12_holds cX12_holds miX12_holds 1 := ⟨lw9 (List.mem_of_getElem? (i := 124) (by decide +kernel)), lw1 (List.mem_of_getElem? (i := 16) (by decide +kernel)), by decide +kernel, by decide +kernel, rfl, rfl⟩
theorem mv_X12_holds : MOKv yX12_holds := ⟨lw9 (List.mem_of_getElem? (i := 123) (by decide +kernel)), lwp (List.mem_of_getElem? (i := 182) (by decide +kernel))⟩
abbrev miX12_behindEnds : Mi := (RX12, 5, (some .int), { frames := 0, cells := 0, slots := 0, locals := 0 }, "behindEnds")
theorem mo_X12_behindEnds : MOK yX12_behindEnds cX12_behindEnds miX12_behindEnds 1 := ⟨lw9 (List.mem_of_getElem? (i := 128) (by decide +kernel)), lw1 (List.mem_of_getElem? (i := 16) (by decide +kernel)), by decide +kernel, by decide +kernel, rfl, rfl⟩
theorem mv_X12_behindEnds : MOKv yX12_behindEnds := ⟨lw9 (List.mem_of_getElem? (i := 127) (by decide +kernel)), lwp (List.mem_of_getElem? (i := 183) (by decide +kernel))⟩
abbrev miX12_lives : Mi := (RX12, 4, none, { frames := 7, cells := 0, slots := 0, locals := 158 }, "lives")
theorem mo_X12_lives : MOK yX12_lives cX12_lives miX12_lives 1 := ⟨lw9 (List.mem_of_getElem? (i := 103) (by decide +kernel)), lw1 (List.mem_of_getElem? (i := 16) (by decide +kernel)), by decide +kernel, by decide +kernel, rfl, rfl⟩
theorem mv_X12_lives : MOKv yX12_lives := ⟨lw9 (List.mem_of_getElem? (i := 102) (by decide +kernel)), lwp (List.mem_of_getElem? (i := 177) (by decide +kernel))⟩
abbrev miX12_live : Mi := (RX12, 3, (some .int), { frames := 8, cells := 0, slots := 0, locals := 181 }, "live")
theorem mo_X12_live : MOK yX12_live cX12_live miX12_live 1 := ⟨lw9 (List.mem_of_getElem? (i := 99) (by decide +kernel)), lw1 (List.mem_of_getElem? (i := 16) (by decide +kernel)), by decide +kernel, by decide +kernel, rfl, rfl⟩
theorem mv_X12_live : MOKv yX12_live := ⟨lw9 (List.mem_of_getElem? (i := 97) (by decide +kernel)), lw9 (List.mem_of_getElem? (i := 98) (by decide +kernel))⟩
abbrev miX12_lived : Mi := (RX12, 2, (some .int), { frames := 1, cells := 0, slots := 0, locals := 21 }, "lived")
theorem mo_X12_lived : MOK yX12_lived cX12_lived miX12_lived 1 := ⟨lw9 (List.mem_of_getElem? (i := 132) (by decide +kernel)), lw1 (List.mem_of_getElem? (i := 16) (by decide +kernel)), by decide +kernel, by decide +kernel, rfl, rfl⟩
theorem mv_X12_lived : MOKv yX12_lived := ⟨lw9 (List.mem_of_getElem? (i := 130) (by decide +kernel)), lw9 (List.mem_of_getElem? (i := 131) (by decide +kernel))⟩
abbrev miX12_mean : Mi := (RX12, 7, (some .boolean), { frames := 8, cells := 0, slots := 0, locals := 181 }, "mean")
theorem mo_X12_mean : MOK yX12_mean cX12_mean miX12_mean 2 := ⟨lw9 (List.mem_of_getElem? (i := 136) (by decide +kernel)), lw1 (List.mem_of_getElem? (i := 16) (by decide +kernel)), by decide +kernel, by decide +kernel, rfl, rfl⟩
theorem mv_X12_mean : MOKv yX12_mean := ⟨lw9 (List.mem_of_getElem? (i := 134) (by decide +kernel)), lw9 (List.mem_of_getElem? (i := 135) (by decide +kernel))⟩
abbrev miX12_copies : Mi := (RX12, 4, none, { frames := 0, cells := 0, slots := 0, locals := 0 }, "copies")
theorem mo_X12_copies : MOK yX12_copies cX12_copies miX12_copies 2 := ⟨lw9 (List.mem_of_getElem? (i := 145) (by decide +kernel)), lw1 (List.mem_of_getElem? (i := 16) (by decide +kernel)), by decide +kernel, by decide +kernel, rfl, rfl⟩
theorem mv_X12_copies : MOKv yX12_copies := ⟨lw9 (List.mem_of_getElem? (i := 144) (by decide +kernel)), lwp (List.mem_of_getElem? (i := 184) (by decide +kernel))⟩
abbrev miX12_mark : Mi := (RX12, 1, (some .int), { frames := 1, cells := 0, slots := 0, locals := 23 }, "mark")
theorem mo_X12_mark : MOK yX12_mark cX12_mark miX12_mark 0 := ⟨lw9 (List.mem_of_getElem? (i := 141) (by decide +kernel)), lw1 (List.mem_of_getElem? (i := 16) (by decide +kernel)), by decide +kernel, by decide +kernel, rfl, rfl⟩
theorem mv_X12_mark : MOKv yX12_mark := ⟨lw9 (List.mem_of_getElem? (i := 139) (by decide +kernel)), lw9 (List.mem_of_getElem? (i := 140) (by decide +kernel))⟩
abbrev miX12_back : Mi := (RX12, 1, (some .int), { frames := 1, cells := 0, slots := 0, locals := 23 }, "back")
theorem mo_X12_back : MOK yX12_back cX12_back miX12_back 0 := ⟨lw9 (List.mem_of_getElem? (i := 149) (by decide +kernel)), lw1 (List.mem_of_getElem? (i := 16) (by decide +kernel)), by decide +kernel, by decide +kernel, rfl, rfl⟩
theorem mv_X12_back : MOKv yX12_back := ⟨lw9 (List.mem_of_getElem? (i := 147) (by decide +kernel)), lw9 (List.mem_of_getElem? (i := 148) (by decide +kernel))⟩
abbrev miX0_init : Mi := (RX0, 1, none, { frames := 2, cells := 6, slots := 7204, locals := 32 }, "<init>")
theorem mo_X0_init : MOK yX0_init cX0_init miX0_init 0 := ⟨lw2 (List.mem_of_getElem? (i := 117) (by decide +kernel)), lw1 (List.mem_of_getElem? (i := 11) (by decide +kernel)), by decide +kernel, by decide +kernel, rfl, rfl⟩
theorem mj_X0_init : MOKi yX0_init := ⟨rfl, lw2 (List.mem_of_getElem? (i := 116) (by decide +kernel))⟩
abbrev miX0_countWays : Mi := (RX0, 7, (some .int), { frames := 5, cells := 0, slots := 0, locals := 140 }, "countWays")
theorem mo_X0_countWays : MOK yX0_countWays cX0_countWays miX0_countWays 2 := ⟨lw5 (List.mem_of_getElem? (i := 104) (by decide +kernel)), lw1 (List.mem_of_getElem? (i := 11) (by decide +kernel)), by decide +kernel, by decide +kernel, rfl, rfl⟩
theorem mv_X0_countWays : MOKv yX0_countWays := ⟨lw5 (List.mem_of_getElem? (i := 103) (by decide +kernel)), lwp (List.mem_of_getElem? (i := 70) (by decide +kernel))⟩
abbrev miX0_layRows : Mi := (RX0, 4, none, { frames := 2, cells := 0, slots := 0, locals := 42 }, "layRows")
theorem mo_X0_layRows : MOK yX0_layRows cX0_layRows miX0_layRows 1 := ⟨lw5 (List.mem_of_getElem? (i := 108) (by decide +kernel)), lw1 (List.mem_of_getElem? (i := 11) (by decide +kernel)), by decide +kernel, by decide +kernel, rfl, rfl⟩
theorem mv_X0_layRows : MOKv yX0_layRows := ⟨lw5 (List.mem_of_getElem? (i := 107) (by decide +kernel)), lwp (List.mem_of_getElem? (i := 71) (by decide +kernel))⟩
abbrev miX0_chooseBelow : Mi := (RX0, 5, none, { frames := 4, cells := 0, slots := 0, locals := 116 }, "chooseBelow")
theorem mo_X0_chooseBelow : MOK yX0_chooseBelow cX0_chooseBelow miX0_chooseBelow 1 := ⟨lw5 (List.mem_of_getElem? (i := 119) (by decide +kernel)), lw1 (List.mem_of_getElem? (i := 11) (by decide +kernel)), by decide +kernel, by decide +kernel, rfl, rfl⟩
theorem mv_X0_chooseBelow : MOKv yX0_chooseBelow := ⟨lw5 (List.mem_of_getElem? (i := 118) (by decide +kernel)), lwp (List.mem_of_getElem? (i := 72) (by decide +kernel))⟩
abbrev miX0_chooseBelowPair : Mi := (RX0, 13, none, { frames := 3, cells := 0, slots := 0, locals := 84 }, "chooseBelowPair")
theorem mo_X0_chooseBelowPair : MOK yX0_chooseBelowPair cX0_chooseBelowPair miX0_chooseBelowPair 4 := ⟨lw5 (List.mem_of_getElem? (i := 123) (by decide +kernel)), lw1 (List.mem_of_getElem? (i := 11) (by decide +kernel)), by decide +kernel, by decide +kernel, rfl, rfl⟩
theorem mv_X0_chooseBelowPair : MOKv yX0_chooseBelowPair := ⟨lw5 (List.mem_of_getElem? (i := 122) (by decide +kernel)), lwp (List.mem_of_getElem? (i := 73) (by decide +kernel))⟩
abbrev miX0_wrongIn : Mi := (RX0, 7, (some .int), { frames := 2, cells := 0, slots := 0, locals := 58 }, "wrongIn")
theorem mo_X0_wrongIn : MOK yX0_wrongIn cX0_wrongIn miX0_wrongIn 4 := ⟨lw5 (List.mem_of_getElem? (i := 127) (by decide +kernel)), lw1 (List.mem_of_getElem? (i := 11) (by decide +kernel)), by decide +kernel, by decide +kernel, rfl, rfl⟩
theorem mv_X0_wrongIn : MOKv yX0_wrongIn := ⟨lw5 (List.mem_of_getElem? (i := 126) (by decide +kernel)), lwp (List.mem_of_getElem? (i := 74) (by decide +kernel))⟩
abbrev miX0_leastFound : Mi := (RX0, 6, (some .int), { frames := 4, cells := 0, slots := 0, locals := 109 }, "leastFound")
theorem mo_X0_leastFound : MOK yX0_leastFound cX0_leastFound miX0_leastFound 0 := ⟨lw5 (List.mem_of_getElem? (i := 137) (by decide +kernel)), lw1 (List.mem_of_getElem? (i := 11) (by decide +kernel)), by decide +kernel, by decide +kernel, rfl, rfl⟩
theorem mv_X0_leastFound : MOKv yX0_leastFound := ⟨lw5 (List.mem_of_getElem? (i := 136) (by decide +kernel)), lwp (List.mem_of_getElem? (i := 75) (by decide +kernel))⟩
abbrev miX0_leastAbove : Mi := (RX0, 6, (some .int), { frames := 3, cells := 0, slots := 0, locals := 84 }, "leastAbove")
theorem mo_X0_leastAbove : MOK yX0_leastAbove cX0_leastAbove miX0_leastAbove 3 := ⟨lw5 (List.mem_of_getElem? (i := 141) (by decide +kernel)), lw1 (List.mem_of_getElem? (i := 11) (by decide +kernel)), by decide +kernel, by decide +kernel, rfl, rfl⟩
theorem mv_X0_leastAbove : MOKv yX0_leastAbove := ⟨lw5 (List.mem_of_getElem? (i := 140) (by decide +kernel)), lwp (List.mem_of_getElem? (i := 76) (by decide +kernel))⟩
abbrev miX1_init : Mi := (RX1, 1, none, { frames := 1, cells := 1, slots := 5, locals := 12 }, "<init>")
theorem mo_X1_init : MOK yX1_init cX1_init miX1_init 0 := ⟨lw1 (List.mem_of_getElem? (i := 165) (by decide +kernel)), lw1 (List.mem_of_getElem? (i := 9) (by decide +kernel)), by decide +kernel, by decide +kernel, rfl, rfl⟩
theorem mj_X1_init : MOKi yX1_init := ⟨rfl, lw1 (List.mem_of_getElem? (i := 164) (by decide +kernel))⟩
abbrev miX1_start : Mi := (RX1, 3, none, { frames := 0, cells := 0, slots := 0, locals := 0 }, "start")
theorem mo_X1_start : MOK yX1_start cX1_start miX1_start 2 := ⟨lw3 (List.mem_of_getElem? (i := 22) (by decide +kernel)), lw1 (List.mem_of_getElem? (i := 9) (by decide +kernel)), by decide +kernel, by decide +kernel, rfl, rfl⟩
theorem mv_X1_start : MOKv yX1_start := ⟨lw3 (List.mem_of_getElem? (i := 21) (by decide +kernel)), lwp (List.mem_of_getElem? (i := 2) (by decide +kernel))⟩
abbrev miX1_addRow : Mi := (RX1, 1, none, { frames := 0, cells := 0, slots := 0, locals := 0 }, "addRow")
theorem mo_X1_addRow : MOK yX1_addRow cX1_addRow miX1_addRow 0 := ⟨lw3 (List.mem_of_getElem? (i := 33) (by decide +kernel)), lw1 (List.mem_of_getElem? (i := 9) (by decide +kernel)), by decide +kernel, by decide +kernel, rfl, rfl⟩
theorem mv_X1_addRow : MOKv yX1_addRow := ⟨lw3 (List.mem_of_getElem? (i := 32) (by decide +kernel)), lwp (List.mem_of_getElem? (i := 4) (by decide +kernel))⟩
abbrev miX1_copyFrom : Mi := (RX1, 2, none, { frames := 0, cells := 0, slots := 0, locals := 0 }, "copyFrom")
theorem mo_X1_copyFrom : MOK yX1_copyFrom cX1_copyFrom miX1_copyFrom 1 := ⟨lw6 (List.mem_of_getElem? (i := 162) (by decide +kernel)), lw1 (List.mem_of_getElem? (i := 9) (by decide +kernel)), by decide +kernel, by decide +kernel, rfl, rfl⟩
theorem mv_X1_copyFrom : MOKv yX1_copyFrom := ⟨lw6 (List.mem_of_getElem? (i := 161) (by decide +kernel)), lwp (List.mem_of_getElem? (i := 109) (by decide +kernel))⟩
abbrev miX1_placeOf : Mi := (RX1, 3, (some .int), { frames := 0, cells := 0, slots := 0, locals := 0 }, "placeOf")
theorem mo_X1_placeOf : MOK yX1_placeOf cX1_placeOf miX1_placeOf 2 := ⟨lw4 (List.mem_of_getElem? (i := 170) (by decide +kernel)), lw1 (List.mem_of_getElem? (i := 9) (by decide +kernel)), by decide +kernel, by decide +kernel, rfl, rfl⟩
theorem mv_X1_placeOf : MOKv yX1_placeOf := ⟨lw4 (List.mem_of_getElem? (i := 169) (by decide +kernel)), lwp (List.mem_of_getElem? (i := 48) (by decide +kernel))⟩
abbrev miX1_rowMask : Mi := (RX1, 1, (some .int), { frames := 0, cells := 0, slots := 0, locals := 0 }, "rowMask")
theorem mo_X1_rowMask : MOK yX1_rowMask cX1_rowMask miX1_rowMask 0 := ⟨lw4 (List.mem_of_getElem? (i := 224) (by decide +kernel)), lw1 (List.mem_of_getElem? (i := 9) (by decide +kernel)), by decide +kernel, by decide +kernel, rfl, rfl⟩
theorem mv_X1_rowMask : MOKv yX1_rowMask := ⟨lw4 (List.mem_of_getElem? (i := 223) (by decide +kernel)), lwp (List.mem_of_getElem? (i := 55) (by decide +kernel))⟩
abbrev miX1_rowOf : Mi := (RX1, 3, (some .int), { frames := 1, cells := 0, slots := 0, locals := 20 }, "rowOf")
theorem mo_X1_rowOf : MOK yX1_rowOf cX1_rowOf miX1_rowOf 2 := ⟨lw4 (List.mem_of_getElem? (i := 232) (by decide +kernel)), lw1 (List.mem_of_getElem? (i := 9) (by decide +kernel)), by decide +kernel, by decide +kernel, rfl, rfl⟩
theorem mv_X1_rowOf : MOKv yX1_rowOf := ⟨lw4 (List.mem_of_getElem? (i := 231) (by decide +kernel)), lwp (List.mem_of_getElem? (i := 56) (by decide +kernel))⟩
abbrev miX1_columnOf : Mi := (RX1, 5, (some .int), { frames := 0, cells := 0, slots := 0, locals := 0 }, "columnOf")
theorem mo_X1_columnOf : MOK yX1_columnOf cX1_columnOf miX1_columnOf 2 := ⟨lw6 (List.mem_of_getElem? (i := 69) (by decide +kernel)), lw1 (List.mem_of_getElem? (i := 9) (by decide +kernel)), by decide +kernel, by decide +kernel, rfl, rfl⟩
theorem mv_X1_columnOf : MOKv yX1_columnOf := ⟨lw6 (List.mem_of_getElem? (i := 68) (by decide +kernel)), lwp (List.mem_of_getElem? (i := 96) (by decide +kernel))⟩
abbrev miX1_around : Mi := (RX1, 3, (some .int), { frames := 0, cells := 0, slots := 0, locals := 0 }, "around")
theorem mo_X1_around : MOK yX1_around cX1_around miX1_around 1 := ⟨lw5 (List.mem_of_getElem? (i := 171) (by decide +kernel)), lw1 (List.mem_of_getElem? (i := 9) (by decide +kernel)), by decide +kernel, by decide +kernel, rfl, rfl⟩
theorem mv_X1_around : MOKv yX1_around := ⟨lw5 (List.mem_of_getElem? (i := 170) (by decide +kernel)), lwp (List.mem_of_getElem? (i := 78) (by decide +kernel))⟩
abbrev miX1_countLit : Mi := (RX1, 13, none, { frames := 0, cells := 0, slots := 0, locals := 0 }, "countLit")
theorem mo_X1_countLit : MOK yX1_countLit cX1_countLit miX1_countLit 1 := ⟨lw4 (List.mem_of_getElem? (i := 178) (by decide +kernel)), lw1 (List.mem_of_getElem? (i := 9) (by decide +kernel)), by decide +kernel, by decide +kernel, rfl, rfl⟩
theorem mv_X1_countLit : MOKv yX1_countLit := ⟨lw4 (List.mem_of_getElem? (i := 177) (by decide +kernel)), lwp (List.mem_of_getElem? (i := 50) (by decide +kernel))⟩
abbrev miX1_step : Mi := (RX1, 7, (some .int), { frames := 1, cells := 0, slots := 0, locals := 32 }, "step")
theorem mo_X1_step : MOK yX1_step cX1_step miX1_step 3 := ⟨lw5 (List.mem_of_getElem? (i := 25) (by decide +kernel)), lw1 (List.mem_of_getElem? (i := 9) (by decide +kernel)), by decide +kernel, by decide +kernel, rfl, rfl⟩
theorem mv_X1_step : MOKv yX1_step := ⟨lw5 (List.mem_of_getElem? (i := 24) (by decide +kernel)), lwp (List.mem_of_getElem? (i := 61) (by decide +kernel))⟩
abbrev miX1_countAround : Mi := (RX1, 4, (some .int), { frames := 1, cells := 0, slots := 0, locals := 32 }, "countAround")
theorem mo_X1_countAround : MOK yX1_countAround cX1_countAround miX1_countAround 2 := ⟨lw4 (List.mem_of_getElem? (i := 174) (by decide +kernel)), lw1 (List.mem_of_getElem? (i := 9) (by decide +kernel)), by decide +kernel, by decide +kernel, rfl, rfl⟩
theorem mv_X1_countAround : MOKv yX1_countAround := ⟨lw4 (List.mem_of_getElem? (i := 173) (by decide +kernel)), lwp (List.mem_of_getElem? (i := 49) (by decide +kernel))⟩
abbrev miX1_countUnlike : Mi := (RX1, 3, (some .int), { frames := 1, cells := 0, slots := 0, locals := 20 }, "countUnlike")
theorem mo_X1_countUnlike : MOK yX1_countUnlike cX1_countUnlike miX1_countUnlike 2 := ⟨lw5 (List.mem_of_getElem? (i := 226) (by decide +kernel)), lw1 (List.mem_of_getElem? (i := 9) (by decide +kernel)), by decide +kernel, by decide +kernel, rfl, rfl⟩
theorem mv_X1_countUnlike : MOKv yX1_countUnlike := ⟨lw5 (List.mem_of_getElem? (i := 225) (by decide +kernel)), lwp (List.mem_of_getElem? (i := 87) (by decide +kernel))⟩
abbrev miX1_heapOf : Mi := (RX1, 6, (some .int), { frames := 1, cells := 0, slots := 0, locals := 22 }, "heapOf")
theorem mo_X1_heapOf : MOK yX1_heapOf cX1_heapOf miX1_heapOf 2 := ⟨lw6 (List.mem_of_getElem? (i := 86) (by decide +kernel)), lw1 (List.mem_of_getElem? (i := 9) (by decide +kernel)), by decide +kernel, by decide +kernel, rfl, rfl⟩
theorem mv_X1_heapOf : MOKv yX1_heapOf := ⟨lw6 (List.mem_of_getElem? (i := 85) (by decide +kernel)), lwp (List.mem_of_getElem? (i := 98) (by decide +kernel))⟩
abbrev miX1_isMirror : Mi := (RX1, 5, (some .boolean), { frames := 2, cells := 0, slots := 0, locals := 42 }, "isMirror")
theorem mo_X1_isMirror : MOK yX1_isMirror cX1_isMirror miX1_isMirror 1 := ⟨lw6 (List.mem_of_getElem? (i := 77) (by decide +kernel)), lw1 (List.mem_of_getElem? (i := 9) (by decide +kernel)), by decide +kernel, by decide +kernel, rfl, rfl⟩
theorem mv_X1_isMirror : MOKv yX1_isMirror := ⟨lw6 (List.mem_of_getElem? (i := 76) (by decide +kernel)), lwp (List.mem_of_getElem? (i := 97) (by decide +kernel))⟩
abbrev miX2_init : Mi := (RX2, 1, none, { frames := 1, cells := 1, slots := 60, locals := 12 }, "<init>")
theorem mo_X2_init : MOK yX2_init cX2_init miX2_init 0 := ⟨lw2 (List.mem_of_getElem? (i := 218) (by decide +kernel)), lw1 (List.mem_of_getElem? (i := 14) (by decide +kernel)), by decide +kernel, by decide +kernel, rfl, rfl⟩
theorem mj_X2_init : MOKi yX2_init := ⟨rfl, lw2 (List.mem_of_getElem? (i := 217) (by decide +kernel))⟩
abbrev miX2_liveBy : Mi := (RX2, 6, none, { frames := 5, cells := 0, slots := 0, locals := 135 }, "liveBy")
theorem mo_X2_liveBy : MOK yX2_liveBy cX2_liveBy miX2_liveBy 2 := ⟨lw6 (List.mem_of_getElem? (i := 111) (by decide +kernel)), lw1 (List.mem_of_getElem? (i := 14) (by decide +kernel)), by decide +kernel, by decide +kernel, rfl, rfl⟩
theorem mv_X2_liveBy : MOKv yX2_liveBy := ⟨lw6 (List.mem_of_getElem? (i := 110) (by decide +kernel)), lwp (List.mem_of_getElem? (i := 100) (by decide +kernel))⟩
abbrev miX2_leaveBlock : Mi := (RX2, 4, (some .int), { frames := 0, cells := 0, slots := 0, locals := 0 }, "leaveBlock")
theorem mo_X2_leaveBlock : MOK yX2_leaveBlock cX2_leaveBlock miX2_leaveBlock 2 := ⟨lw6 (List.mem_of_getElem? (i := 116) (by decide +kernel)), lw1 (List.mem_of_getElem? (i := 14) (by decide +kernel)), by decide +kernel, by decide +kernel, rfl, rfl⟩
theorem mv_X2_leaveBlock : MOKv yX2_leaveBlock := ⟨lw6 (List.mem_of_getElem? (i := 115) (by decide +kernel)), lwp (List.mem_of_getElem? (i := 101) (by decide +kernel))⟩
abbrev miX2_doStep : Mi := (RX2, 5, (some .int), { frames := 4, cells := 0, slots := 0, locals := 111 }, "doStep")
theorem mo_X2_doStep : MOK yX2_doStep cX2_doStep miX2_doStep 2 := ⟨lw6 (List.mem_of_getElem? (i := 120) (by decide +kernel)), lw1 (List.mem_of_getElem? (i := 14) (by decide +kernel)), by decide +kernel, by decide +kernel, rfl, rfl⟩
theorem mv_X2_doStep : MOKv yX2_doStep := ⟨lw6 (List.mem_of_getElem? (i := 119) (by decide +kernel)), lwp (List.mem_of_getElem? (i := 102) (by decide +kernel))⟩
abbrev miX2_isTrue : Mi := (RX2, 6, (some .boolean), { frames := 3, cells := 0, slots := 0, locals := 78 }, "isTrue")
theorem mo_X2_isTrue : MOK yX2_isTrue cX2_isTrue miX2_isTrue 2 := ⟨lw6 (List.mem_of_getElem? (i := 144) (by decide +kernel)), lw1 (List.mem_of_getElem? (i := 14) (by decide +kernel)), by decide +kernel, by decide +kernel, rfl, rfl⟩
theorem mv_X2_isTrue : MOKv yX2_isTrue := ⟨lw6 (List.mem_of_getElem? (i := 143) (by decide +kernel)), lwp (List.mem_of_getElem? (i := 107) (by decide +kernel))⟩
abbrev miX2_draw : Mi := (RX2, 2, (some .int), { frames := 0, cells := 0, slots := 0, locals := 0 }, "draw")
theorem mo_X2_draw : MOK yX2_draw cX2_draw miX2_draw 1 := ⟨lw6 (List.mem_of_getElem? (i := 135) (by decide +kernel)), lw1 (List.mem_of_getElem? (i := 14) (by decide +kernel)), by decide +kernel, by decide +kernel, rfl, rfl⟩
theorem mv_X2_draw : MOKv yX2_draw := ⟨lw6 (List.mem_of_getElem? (i := 134) (by decide +kernel)), lwp (List.mem_of_getElem? (i := 105) (by decide +kernel))⟩
abbrev miX2_turnLamp : Mi := (RX2, 5, none, { frames := 1, cells := 0, slots := 0, locals := 22 }, "turnLamp")
theorem mo_X2_turnLamp : MOK yX2_turnLamp cX2_turnLamp miX2_turnLamp 3 := ⟨lw6 (List.mem_of_getElem? (i := 125) (by decide +kernel)), lw1 (List.mem_of_getElem? (i := 14) (by decide +kernel)), by decide +kernel, by decide +kernel, rfl, rfl⟩
theorem mv_X2_turnLamp : MOKv yX2_turnLamp := ⟨lw6 (List.mem_of_getElem? (i := 124) (by decide +kernel)), lwp (List.mem_of_getElem? (i := 103) (by decide +kernel))⟩
abbrev miX2_blow : Mi := (RX2, 6, none, { frames := 1, cells := 0, slots := 0, locals := 21 }, "blow")
theorem mo_X2_blow : MOK yX2_blow cX2_blow miX2_blow 2 := ⟨lw6 (List.mem_of_getElem? (i := 131) (by decide +kernel)), lw1 (List.mem_of_getElem? (i := 14) (by decide +kernel)), by decide +kernel, by decide +kernel, rfl, rfl⟩
theorem mv_X2_blow : MOKv yX2_blow := ⟨lw6 (List.mem_of_getElem? (i := 130) (by decide +kernel)), lwp (List.mem_of_getElem? (i := 104) (by decide +kernel))⟩
abbrev miX2_bear : Mi := (RX2, 5, none, { frames := 1, cells := 0, slots := 0, locals := 22 }, "bear")
theorem mo_X2_bear : MOK yX2_bear cX2_bear miX2_bear 1 := ⟨lw6 (List.mem_of_getElem? (i := 140) (by decide +kernel)), lw1 (List.mem_of_getElem? (i := 14) (by decide +kernel)), by decide +kernel, by decide +kernel, rfl, rfl⟩
theorem mv_X2_bear : MOKv yX2_bear := ⟨lw6 (List.mem_of_getElem? (i := 139) (by decide +kernel)), lwp (List.mem_of_getElem? (i := 106) (by decide +kernel))⟩
abbrev miX3_init : Mi := (RX3, 1, none, { frames := 1, cells := 0, slots := 0, locals := 12 }, "<init>")
theorem mo_X3_init : MOK yX3_init cX3_init miX3_init 0 := ⟨lw2 (List.mem_of_getElem? (i := 153) (by decide +kernel)), lw1 (List.mem_of_getElem? (i := 12) (by decide +kernel)), by decide +kernel, by decide +kernel, rfl, rfl⟩
theorem mj_X3_init : MOKi yX3_init := ⟨rfl, lw2 (List.mem_of_getElem? (i := 152) (by decide +kernel))⟩
abbrev miX3_findRound : Mi := (RX3, 4, (some .boolean), { frames := 4, cells := 0, slots := 0, locals := 104 }, "findRound")
theorem mo_X3_findRound : MOK yX3_findRound cX3_findRound miX3_findRound 1 := ⟨lw5 (List.mem_of_getElem? (i := 41) (by decide +kernel)), lw1 (List.mem_of_getElem? (i := 12) (by decide +kernel)), by decide +kernel, by decide +kernel, rfl, rfl⟩
theorem mv_X3_findRound : MOKv yX3_findRound := ⟨lw5 (List.mem_of_getElem? (i := 40) (by decide +kernel)), lwp (List.mem_of_getElem? (i := 63) (by decide +kernel))⟩
abbrev miX3_findRoundLength : Mi := (RX3, 6, (some .boolean), { frames := 3, cells := 0, slots := 0, locals := 79 }, "findRoundLength")
theorem mo_X3_findRoundLength : MOK yX3_findRoundLength cX3_findRoundLength miX3_findRoundLength 1 := ⟨lw5 (List.mem_of_getElem? (i := 45) (by decide +kernel)), lw1 (List.mem_of_getElem? (i := 12) (by decide +kernel)), by decide +kernel, by decide +kernel, rfl, rfl⟩
theorem mv_X3_findRoundLength : MOKv yX3_findRoundLength := ⟨lw5 (List.mem_of_getElem? (i := 44) (by decide +kernel)), lwp (List.mem_of_getElem? (i := 64) (by decide +kernel))⟩
abbrev miX3_farAhead : Mi := (RX3, 4, (some .int), { frames := 3, cells := 0, slots := 0, locals := 88 }, "farAhead")
theorem mo_X3_farAhead : MOK yX3_farAhead cX3_farAhead miX3_farAhead 2 := ⟨lw5 (List.mem_of_getElem? (i := 59) (by decide +kernel)), lw1 (List.mem_of_getElem? (i := 12) (by decide +kernel)), by decide +kernel, by decide +kernel, rfl, rfl⟩
theorem mv_X3_farAhead : MOKv yX3_farAhead := ⟨lw5 (List.mem_of_getElem? (i := 58) (by decide +kernel)), lwp (List.mem_of_getElem? (i := 66) (by decide +kernel))⟩
abbrev miX3_findWalk : Mi := (RX3, 7, (some .boolean), { frames := 3, cells := 0, slots := 0, locals := 79 }, "findWalk")
theorem mo_X3_findWalk : MOK yX3_findWalk cX3_findWalk miX3_findWalk 1 := ⟨lw5 (List.mem_of_getElem? (i := 67) (by decide +kernel)), lw1 (List.mem_of_getElem? (i := 12) (by decide +kernel)), by decide +kernel, by decide +kernel, rfl, rfl⟩
theorem mv_X3_findWalk : MOKv yX3_findWalk := ⟨lw5 (List.mem_of_getElem? (i := 66) (by decide +kernel)), lwp (List.mem_of_getElem? (i := 67) (by decide +kernel))⟩
abbrev miX3_moveToCorner : Mi := (RX3, 3, none, { frames := 1, cells := 0, slots := 0, locals := 20 }, "moveToCorner")
theorem mo_X3_moveToCorner : MOK yX3_moveToCorner cX3_moveToCorner miX3_moveToCorner 2 := ⟨lw5 (List.mem_of_getElem? (i := 71) (by decide +kernel)), lw1 (List.mem_of_getElem? (i := 12) (by decide +kernel)), by decide +kernel, by decide +kernel, rfl, rfl⟩
theorem mv_X3_moveToCorner : MOKv yX3_moveToCorner := ⟨lw5 (List.mem_of_getElem? (i := 70) (by decide +kernel)), lwp (List.mem_of_getElem? (i := 68) (by decide +kernel))⟩
abbrev miX4_init : Mi := (RX4, 4, none, { frames := 5, cells := 7, slots := 5427, locals := 106 }, "<init>")
theorem mo_X4_init : MOK yX4_init cX4_init miX4_init 0 := ⟨lw1 (List.mem_of_getElem? (i := 52) (by decide +kernel)), lw1 (List.mem_of_getElem? (i := 3) (by decide +kernel)), by decide +kernel, by decide +kernel, rfl, rfl⟩
theorem mj_X4_init : MOKi yX4_init := ⟨rfl, lw1 (List.mem_of_getElem? (i := 51) (by decide +kernel))⟩
abbrev miX4_hasRoomFor : Mi := (RX4, 2, (some .boolean), { frames := 0, cells := 0, slots := 0, locals := 0 }, "hasRoomFor")
theorem mo_X4_hasRoomFor : MOK yX4_hasRoomFor cX4_hasRoomFor miX4_hasRoomFor 1 := ⟨lw3 (List.mem_of_getElem? (i := 172) (by decide +kernel)), lw1 (List.mem_of_getElem? (i := 3) (by decide +kernel)), by decide +kernel, by decide +kernel, rfl, rfl⟩
theorem mv_X4_hasRoomFor : MOKv yX4_hasRoomFor := ⟨lw3 (List.mem_of_getElem? (i := 171) (by decide +kernel)), lwp (List.mem_of_getElem? (i := 17) (by decide +kernel))⟩
abbrev miX4_append : Mi := (RX4, 3, none, { frames := 0, cells := 0, slots := 0, locals := 0 }, "append")
theorem mo_X4_append : MOK yX4_append cX4_append miX4_append 1 := ⟨lw3 (List.mem_of_getElem? (i := 176) (by decide +kernel)), lw1 (List.mem_of_getElem? (i := 3) (by decide +kernel)), by decide +kernel, by decide +kernel, rfl, rfl⟩
theorem mv_X4_append : MOKv yX4_append := ⟨lw3 (List.mem_of_getElem? (i := 175) (by decide +kernel)), lwp (List.mem_of_getElem? (i := 18) (by decide +kernel))⟩
abbrev miX4_begin : Mi := (RX4, 3, none, { frames := 3, cells := 0, slots := 0, locals := 73 }, "begin")
theorem mo_X4_begin : MOK yX4_begin cX4_begin miX4_begin 1 := ⟨lw3 (List.mem_of_getElem? (i := 184) (by decide +kernel)), lw1 (List.mem_of_getElem? (i := 3) (by decide +kernel)), by decide +kernel, by decide +kernel, rfl, rfl⟩
theorem mv_X4_begin : MOKv yX4_begin := ⟨lw3 (List.mem_of_getElem? (i := 183) (by decide +kernel)), lwp (List.mem_of_getElem? (i := 19) (by decide +kernel))⟩
abbrev miX4_skipBlanks : Mi := (RX4, 3, (some .int), { frames := 0, cells := 0, slots := 0, locals := 0 }, "skipBlanks")
theorem mo_X4_skipBlanks : MOK yX4_skipBlanks cX4_skipBlanks miX4_skipBlanks 1 := ⟨lw3 (List.mem_of_getElem? (i := 191) (by decide +kernel)), lw1 (List.mem_of_getElem? (i := 3) (by decide +kernel)), by decide +kernel, by decide +kernel, rfl, rfl⟩
theorem mv_X4_skipBlanks : MOKv yX4_skipBlanks := ⟨lw3 (List.mem_of_getElem? (i := 190) (by decide +kernel)), lwp (List.mem_of_getElem? (i := 20) (by decide +kernel))⟩
abbrev miX4_note : Mi := (RX4, 5, none, { frames := 0, cells := 0, slots := 0, locals := 0 }, "note")
theorem mo_X4_note : MOK yX4_note cX4_note miX4_note 4 := ⟨lw3 (List.mem_of_getElem? (i := 204) (by decide +kernel)), lw1 (List.mem_of_getElem? (i := 3) (by decide +kernel)), by decide +kernel, by decide +kernel, rfl, rfl⟩
theorem mv_X4_note : MOKv yX4_note := ⟨lw3 (List.mem_of_getElem? (i := 203) (by decide +kernel)), lwp (List.mem_of_getElem? (i := 23) (by decide +kernel))⟩
abbrev miX4_addToken : Mi := (RX4, 4, (some .int), { frames := 2, cells := 0, slots := 0, locals := 50 }, "addToken")
theorem mo_X4_addToken : MOK yX4_addToken cX4_addToken miX4_addToken 1 := ⟨lw3 (List.mem_of_getElem? (i := 195) (by decide +kernel)), lw1 (List.mem_of_getElem? (i := 3) (by decide +kernel)), by decide +kernel, by decide +kernel, rfl, rfl⟩
theorem mv_X4_addToken : MOKv yX4_addToken := ⟨lw3 (List.mem_of_getElem? (i := 194) (by decide +kernel)), lwp (List.mem_of_getElem? (i := 21) (by decide +kernel))⟩
abbrev miX4_addWord : Mi := (RX4, 7, (some .int), { frames := 1, cells := 0, slots := 0, locals := 24 }, "addWord")
theorem mo_X4_addWord : MOK yX4_addWord cX4_addWord miX4_addWord 1 := ⟨lw3 (List.mem_of_getElem? (i := 199) (by decide +kernel)), lw1 (List.mem_of_getElem? (i := 3) (by decide +kernel)), by decide +kernel, by decide +kernel, rfl, rfl⟩
theorem mv_X4_addWord : MOKv yX4_addWord := ⟨lw3 (List.mem_of_getElem? (i := 198) (by decide +kernel)), lwp (List.mem_of_getElem? (i := 22) (by decide +kernel))⟩
abbrev miX4_addNumber : Mi := (RX4, 4, (some .int), { frames := 1, cells := 0, slots := 0, locals := 24 }, "addNumber")
theorem mo_X4_addNumber : MOK yX4_addNumber cX4_addNumber miX4_addNumber 1 := ⟨lw3 (List.mem_of_getElem? (i := 208) (by decide +kernel)), lw1 (List.mem_of_getElem? (i := 3) (by decide +kernel)), by decide +kernel, by decide +kernel, rfl, rfl⟩
theorem mv_X4_addNumber : MOKv yX4_addNumber := ⟨lw3 (List.mem_of_getElem? (i := 207) (by decide +kernel)), lwp (List.mem_of_getElem? (i := 24) (by decide +kernel))⟩
abbrev miX4_isEnd : Mi := (RX4, 1, (some .boolean), { frames := 0, cells := 0, slots := 0, locals := 0 }, "isEnd")
theorem mo_X4_isEnd : MOK yX4_isEnd cX4_isEnd miX4_isEnd 0 := ⟨lw4 (List.mem_of_getElem? (i := 37) (by decide +kernel)), lw1 (List.mem_of_getElem? (i := 3) (by decide +kernel)), by decide +kernel, by decide +kernel, rfl, rfl⟩
theorem mv_X4_isEnd : MOKv yX4_isEnd := ⟨lw4 (List.mem_of_getElem? (i := 36) (by decide +kernel)), lwp (List.mem_of_getElem? (i := 36) (by decide +kernel))⟩
abbrev miX4_isNumber : Mi := (RX4, 1, (some .boolean), { frames := 0, cells := 0, slots := 0, locals := 0 }, "isNumber")
theorem mo_X4_isNumber : MOK yX4_isNumber cX4_isNumber miX4_isNumber 0 := ⟨lw3 (List.mem_of_getElem? (i := 238) (by decide +kernel)), lw1 (List.mem_of_getElem? (i := 3) (by decide +kernel)), by decide +kernel, by decide +kernel, rfl, rfl⟩
theorem mv_X4_isNumber : MOKv yX4_isNumber := ⟨lw3 (List.mem_of_getElem? (i := 237) (by decide +kernel)), lwp (List.mem_of_getElem? (i := 30) (by decide +kernel))⟩
abbrev miX4_isWord : Mi := (RX4, 2, (some .boolean), { frames := 0, cells := 0, slots := 0, locals := 0 }, "isWord")
theorem mo_X4_isWord : MOK yX4_isWord cX4_isWord miX4_isWord 1 := ⟨lw3 (List.mem_of_getElem? (i := 222) (by decide +kernel)), lw1 (List.mem_of_getElem? (i := 3) (by decide +kernel)), by decide +kernel, by decide +kernel, rfl, rfl⟩
theorem mv_X4_isWord : MOKv yX4_isWord := ⟨lw3 (List.mem_of_getElem? (i := 221) (by decide +kernel)), lwp (List.mem_of_getElem? (i := 26) (by decide +kernel))⟩
abbrev miX4_isSign : Mi := (RX4, 2, (some .boolean), { frames := 0, cells := 0, slots := 0, locals := 0 }, "isSign")
theorem mo_X4_isSign : MOK yX4_isSign cX4_isSign miX4_isSign 1 := ⟨lw4 (List.mem_of_getElem? (i := 13) (by decide +kernel)), lw1 (List.mem_of_getElem? (i := 3) (by decide +kernel)), by decide +kernel, by decide +kernel, rfl, rfl⟩
theorem mv_X4_isSign : MOKv yX4_isSign := ⟨lw4 (List.mem_of_getElem? (i := 12) (by decide +kernel)), lwp (List.mem_of_getElem? (i := 33) (by decide +kernel))⟩
abbrev miX4_isName : Mi := (RX4, 1, (some .boolean), { frames := 0, cells := 0, slots := 0, locals := 0 }, "isName")
theorem mo_X4_isName : MOK yX4_isName cX4_isName miX4_isName 0 := ⟨lw4 (List.mem_of_getElem? (i := 47) (by decide +kernel)), lw1 (List.mem_of_getElem? (i := 3) (by decide +kernel)), by decide +kernel, by decide +kernel, rfl, rfl⟩
theorem mv_X4_isName : MOKv yX4_isName := ⟨lw4 (List.mem_of_getElem? (i := 46) (by decide +kernel)), lwp (List.mem_of_getElem? (i := 37) (by decide +kernel))⟩
abbrev miX4_wordNumber : Mi := (RX4, 1, (some .int), { frames := 0, cells := 0, slots := 0, locals := 0 }, "wordNumber")
theorem mo_X4_wordNumber : MOK yX4_wordNumber cX4_wordNumber miX4_wordNumber 0 := ⟨lw4 (List.mem_of_getElem? (i := 114) (by decide +kernel)), lw1 (List.mem_of_getElem? (i := 3) (by decide +kernel)), by decide +kernel, by decide +kernel, rfl, rfl⟩
theorem mv_X4_wordNumber : MOKv yX4_wordNumber := ⟨lw4 (List.mem_of_getElem? (i := 113) (by decide +kernel)), lwp (List.mem_of_getElem? (i := 45) (by decide +kernel))⟩
abbrev miX4_isWordOf : Mi := (RX4, 2, (some .boolean), { frames := 0, cells := 0, slots := 0, locals := 0 }, "isWordOf")
theorem mo_X4_isWordOf : MOK yX4_isWordOf cX4_isWordOf miX4_isWordOf 1 := ⟨lw4 (List.mem_of_getElem? (i := 24) (by decide +kernel)), lw1 (List.mem_of_getElem? (i := 3) (by decide +kernel)), by decide +kernel, by decide +kernel, rfl, rfl⟩
theorem mv_X4_isWordOf : MOKv yX4_isWordOf := ⟨lw4 (List.mem_of_getElem? (i := 23) (by decide +kernel)), lwp (List.mem_of_getElem? (i := 34) (by decide +kernel))⟩
abbrev miX4_letterAt : Mi := (RX4, 2, (some .int), { frames := 0, cells := 0, slots := 0, locals := 0 }, "letterAt")
theorem mo_X4_letterAt : MOK yX4_letterAt cX4_letterAt miX4_letterAt 1 := ⟨lw4 (List.mem_of_getElem? (i := 28) (by decide +kernel)), lw1 (List.mem_of_getElem? (i := 3) (by decide +kernel)), by decide +kernel, by decide +kernel, rfl, rfl⟩
theorem mv_X4_letterAt : MOKv yX4_letterAt := ⟨lw4 (List.mem_of_getElem? (i := 27) (by decide +kernel)), lwp (List.mem_of_getElem? (i := 35) (by decide +kernel))⟩
abbrev miX4_value : Mi := (RX4, 1, (some .int), { frames := 0, cells := 0, slots := 0, locals := 0 }, "value")
theorem mo_X4_value : MOK yX4_value cX4_value miX4_value 0 := ⟨lw4 (List.mem_of_getElem? (i := 2) (by decide +kernel)), lw1 (List.mem_of_getElem? (i := 3) (by decide +kernel)), by decide +kernel, by decide +kernel, rfl, rfl⟩
theorem mv_X4_value : MOKv yX4_value := ⟨lw4 (List.mem_of_getElem? (i := 1) (by decide +kernel)), lwp (List.mem_of_getElem? (i := 31) (by decide +kernel))⟩
abbrev miX4_name : Mi := (RX4, 1, (some .long), { frames := 0, cells := 0, slots := 0, locals := 0 }, "name")
theorem mo_X4_name : MOK yX4_name cX4_name miX4_name 0 := ⟨lw4 (List.mem_of_getElem? (i := 51) (by decide +kernel)), lw1 (List.mem_of_getElem? (i := 3) (by decide +kernel)), by decide +kernel, by decide +kernel, rfl, rfl⟩
theorem mv_X4_name : MOKv yX4_name := ⟨lw4 (List.mem_of_getElem? (i := 50) (by decide +kernel)), lwp (List.mem_of_getElem? (i := 38) (by decide +kernel))⟩
abbrev miX4_advance : Mi := (RX4, 1, none, { frames := 0, cells := 0, slots := 0, locals := 0 }, "advance")
theorem mo_X4_advance : MOK yX4_advance cX4_advance miX4_advance 0 := ⟨lw3 (List.mem_of_getElem? (i := 230) (by decide +kernel)), lw1 (List.mem_of_getElem? (i := 3) (by decide +kernel)), by decide +kernel, by decide +kernel, rfl, rfl⟩
theorem mv_X4_advance : MOKv yX4_advance := ⟨lw3 (List.mem_of_getElem? (i := 229) (by decide +kernel)), lwp (List.mem_of_getElem? (i := 28) (by decide +kernel))⟩
abbrev miX4_fail : Mi := (RX4, 2, (some .boolean), { frames := 0, cells := 0, slots := 0, locals := 0 }, "fail")
theorem mo_X4_fail : MOK yX4_fail cX4_fail miX4_fail 1 := ⟨lw3 (List.mem_of_getElem? (i := 226) (by decide +kernel)), lw1 (List.mem_of_getElem? (i := 3) (by decide +kernel)), by decide +kernel, by decide +kernel, rfl, rfl⟩
theorem mv_X4_fail : MOKv yX4_fail := ⟨lw3 (List.mem_of_getElem? (i := 225) (by decide +kernel)), lwp (List.mem_of_getElem? (i := 27) (by decide +kernel))⟩
abbrev miX4_takeWord : Mi := (RX4, 2, (some .boolean), { frames := 1, cells := 0, slots := 0, locals := 21 }, "takeWord")
theorem mo_X4_takeWord : MOK yX4_takeWord cX4_takeWord miX4_takeWord 1 := ⟨lw3 (List.mem_of_getElem? (i := 218) (by decide +kernel)), lw1 (List.mem_of_getElem? (i := 3) (by decide +kernel)), by decide +kernel, by decide +kernel, rfl, rfl⟩
theorem mv_X4_takeWord : MOKv yX4_takeWord := ⟨lw3 (List.mem_of_getElem? (i := 217) (by decide +kernel)), lwp (List.mem_of_getElem? (i := 25) (by decide +kernel))⟩
abbrev miX4_takeSign : Mi := (RX4, 2, (some .boolean), { frames := 1, cells := 0, slots := 0, locals := 21 }, "takeSign")
theorem mo_X4_takeSign : MOK yX4_takeSign cX4_takeSign miX4_takeSign 1 := ⟨lw4 (List.mem_of_getElem? (i := 9) (by decide +kernel)), lw1 (List.mem_of_getElem? (i := 3) (by decide +kernel)), by decide +kernel, by decide +kernel, rfl, rfl⟩
theorem mv_X4_takeSign : MOKv yX4_takeSign := ⟨lw4 (List.mem_of_getElem? (i := 8) (by decide +kernel)), lwp (List.mem_of_getElem? (i := 32) (by decide +kernel))⟩
abbrev miX4_takeNumber : Mi := (RX4, 3, (some .boolean), { frames := 1, cells := 0, slots := 0, locals := 21 }, "takeNumber")
theorem mo_X4_takeNumber : MOK yX4_takeNumber cX4_takeNumber miX4_takeNumber 2 := ⟨lw3 (List.mem_of_getElem? (i := 234) (by decide +kernel)), lw1 (List.mem_of_getElem? (i := 3) (by decide +kernel)), by decide +kernel, by decide +kernel, rfl, rfl⟩
theorem mv_X4_takeNumber : MOKv yX4_takeNumber := ⟨lw3 (List.mem_of_getElem? (i := 233) (by decide +kernel)), lwp (List.mem_of_getElem? (i := 29) (by decide +kernel))⟩
abbrev miX5_init : Mi := (RX5, 1, none, { frames := 2, cells := 16, slots := 367, locals := 32 }, "<init>")
theorem mo_X5_init : MOK yX5_init cX5_init miX5_init 0 := ⟨lw1 (List.mem_of_getElem? (i := 159) (by decide +kernel)), lw1 (List.mem_of_getElem? (i := 8) (by decide +kernel)), by decide +kernel, by decide +kernel, rfl, rfl⟩
theorem mj_X5_init : MOKi yX5_init := ⟨rfl, lw1 (List.mem_of_getElem? (i := 158) (by decide +kernel))⟩
abbrev miX5_makeOneDarkHouse : Mi := (RX5, 1, none, { frames := 2, cells := 0, slots := 0, locals := 45 }, "makeOneDarkHouse")
theorem mo_X5_makeOneDarkHouse : MOK yX5_makeOneDarkHouse cX5_makeOneDarkHouse miX5_makeOneDarkHouse 0 := ⟨lw3 (List.mem_of_getElem? (i := 14) (by decide +kernel)), lw1 (List.mem_of_getElem? (i := 8) (by decide +kernel)), by decide +kernel, by decide +kernel, rfl, rfl⟩
theorem mv_X5_makeOneDarkHouse : MOKv yX5_makeOneDarkHouse := ⟨lw3 (List.mem_of_getElem? (i := 13) (by decide +kernel)), lwp (List.mem_of_getElem? (i := 0) (by decide +kernel))⟩
abbrev miX5_makeEmpty : Mi := (RX5, 3, none, { frames := 1, cells := 0, slots := 0, locals := 23 }, "makeEmpty")
theorem mo_X5_makeEmpty : MOK yX5_makeEmpty cX5_makeEmpty miX5_makeEmpty 2 := ⟨lw3 (List.mem_of_getElem? (i := 18) (by decide +kernel)), lw1 (List.mem_of_getElem? (i := 8) (by decide +kernel)), by decide +kernel, by decide +kernel, rfl, rfl⟩
theorem mv_X5_makeEmpty : MOKv yX5_makeEmpty := ⟨lw3 (List.mem_of_getElem? (i := 17) (by decide +kernel)), lwp (List.mem_of_getElem? (i := 1) (by decide +kernel))⟩
abbrev miX5_addHouse : Mi := (RX5, 4, none, { frames := 0, cells := 0, slots := 0, locals := 0 }, "addHouse")
theorem mo_X5_addHouse : MOK yX5_addHouse cX5_addHouse miX5_addHouse 2 := ⟨lw3 (List.mem_of_getElem? (i := 37) (by decide +kernel)), lw1 (List.mem_of_getElem? (i := 8) (by decide +kernel)), by decide +kernel, by decide +kernel, rfl, rfl⟩
theorem mv_X5_addHouse : MOKv yX5_addHouse := ⟨lw3 (List.mem_of_getElem? (i := 36) (by decide +kernel)), lwp (List.mem_of_getElem? (i := 5) (by decide +kernel))⟩
abbrev miX5_copyFrom : Mi := (RX5, 2, none, { frames := 2, cells := 0, slots := 0, locals := 47 }, "copyFrom")
theorem mo_X5_copyFrom : MOK yX5_copyFrom cX5_copyFrom miX5_copyFrom 1 := ⟨lw6 (List.mem_of_getElem? (i := 158) (by decide +kernel)), lw1 (List.mem_of_getElem? (i := 8) (by decide +kernel)), by decide +kernel, by decide +kernel, rfl, rfl⟩
theorem mv_X5_copyFrom : MOKv yX5_copyFrom := ⟨lw6 (List.mem_of_getElem? (i := 157) (by decide +kernel)), lwp (List.mem_of_getElem? (i := 108) (by decide +kernel))⟩
abbrev miX5_hasRule : Mi := (RX5, 2, (some .boolean), { frames := 0, cells := 0, slots := 0, locals := 0 }, "hasRule")
theorem mo_X5_hasRule : MOK yX5_hasRule cX5_hasRule miX5_hasRule 1 := ⟨lw4 (List.mem_of_getElem? (i := 186) (by decide +kernel)), lw1 (List.mem_of_getElem? (i := 8) (by decide +kernel)), by decide +kernel, by decide +kernel, rfl, rfl⟩
theorem mv_X5_hasRule : MOKv yX5_hasRule := ⟨lw4 (List.mem_of_getElem? (i := 185) (by decide +kernel)), lwp (List.mem_of_getElem? (i := 51) (by decide +kernel))⟩
abbrev miX5_hasCitizen : Mi := (RX5, 2, (some .boolean), { frames := 0, cells := 0, slots := 0, locals := 0 }, "hasCitizen")
theorem mo_X5_hasCitizen : MOK yX5_hasCitizen cX5_hasCitizen miX5_hasCitizen 1 := ⟨lw4 (List.mem_of_getElem? (i := 194) (by decide +kernel)), lw1 (List.mem_of_getElem? (i := 8) (by decide +kernel)), by decide +kernel, by decide +kernel, rfl, rfl⟩
theorem mv_X5_hasCitizen : MOKv yX5_hasCitizen := ⟨lw4 (List.mem_of_getElem? (i := 193) (by decide +kernel)), lwp (List.mem_of_getElem? (i := 52) (by decide +kernel))⟩
abbrev miX5_ruleNamed : Mi := (RX5, 4, (some .int), { frames := 0, cells := 0, slots := 0, locals := 0 }, "ruleNamed")
theorem mo_X5_ruleNamed : MOK yX5_ruleNamed cX5_ruleNamed miX5_ruleNamed 1 := ⟨lw4 (List.mem_of_getElem? (i := 59) (by decide +kernel)), lw1 (List.mem_of_getElem? (i := 8) (by decide +kernel)), by decide +kernel, by decide +kernel, rfl, rfl⟩
theorem mv_X5_ruleNamed : MOKv yX5_ruleNamed := ⟨lw4 (List.mem_of_getElem? (i := 58) (by decide +kernel)), lwp (List.mem_of_getElem? (i := 40) (by decide +kernel))⟩
abbrev miX5_isNameTaken : Mi := (RX5, 4, (some .boolean), { frames := 1, cells := 0, slots := 0, locals := 23 }, "isNameTaken")
theorem mo_X5_isNameTaken : MOK yX5_isNameTaken cX5_isNameTaken miX5_isNameTaken 1 := ⟨lw4 (List.mem_of_getElem? (i := 55) (by decide +kernel)), lw1 (List.mem_of_getElem? (i := 8) (by decide +kernel)), by decide +kernel, by decide +kernel, rfl, rfl⟩
theorem mv_X5_isNameTaken : MOKv yX5_isNameTaken := ⟨lw4 (List.mem_of_getElem? (i := 54) (by decide +kernel)), lwp (List.mem_of_getElem? (i := 39) (by decide +kernel))⟩
abbrev miX5_bornNow : Mi := (RX5, 1, (some .int), { frames := 0, cells := 0, slots := 0, locals := 0 }, "bornNow")
theorem mo_X5_bornNow : MOK yX5_bornNow cX5_bornNow miX5_bornNow 0 := ⟨lw5 (List.mem_of_getElem? (i := 17) (by decide +kernel)), lw1 (List.mem_of_getElem? (i := 8) (by decide +kernel)), by decide +kernel, by decide +kernel, rfl, rfl⟩
theorem mv_X5_bornNow : MOKv yX5_bornNow := ⟨lw5 (List.mem_of_getElem? (i := 16) (by decide +kernel)), lwp (List.mem_of_getElem? (i := 59) (by decide +kernel))⟩
abbrev miX5_staysNow : Mi := (RX5, 1, (some .int), { frames := 0, cells := 0, slots := 0, locals := 0 }, "staysNow")
theorem mo_X5_staysNow : MOK yX5_staysNow cX5_staysNow miX5_staysNow 0 := ⟨lw5 (List.mem_of_getElem? (i := 21) (by decide +kernel)), lw1 (List.mem_of_getElem? (i := 8) (by decide +kernel)), by decide +kernel, by decide +kernel, rfl, rfl⟩
theorem mv_X5_staysNow : MOKv yX5_staysNow := ⟨lw5 (List.mem_of_getElem? (i := 20) (by decide +kernel)), lwp (List.mem_of_getElem? (i := 60) (by decide +kernel))⟩
abbrev miX5_nextOf : Mi := (RX5, 2, (some .int), { frames := 2, cells := 0, slots := 0, locals := 58 }, "nextOf")
theorem mo_X5_nextOf : MOK yX5_nextOf cX5_nextOf miX5_nextOf 1 := ⟨lw5 (List.mem_of_getElem? (i := 49) (by decide +kernel)), lw1 (List.mem_of_getElem? (i := 8) (by decide +kernel)), by decide +kernel, by decide +kernel, rfl, rfl⟩
theorem mv_X5_nextOf : MOKv yX5_nextOf := ⟨lw5 (List.mem_of_getElem? (i := 48) (by decide +kernel)), lwp (List.mem_of_getElem? (i := 65) (by decide +kernel))⟩
abbrev miX5_repaint : Mi := (RX5, 2, (some .int), { frames := 1, cells := 0, slots := 0, locals := 20 }, "repaint")
theorem mo_X5_repaint : MOK yX5_repaint cX5_repaint miX5_repaint 1 := ⟨lw4 (List.mem_of_getElem? (i := 214) (by decide +kernel)), lw1 (List.mem_of_getElem? (i := 8) (by decide +kernel)), by decide +kernel, by decide +kernel, rfl, rfl⟩
theorem mv_X5_repaint : MOKv yX5_repaint := ⟨lw4 (List.mem_of_getElem? (i := 213) (by decide +kernel)), lwp (List.mem_of_getElem? (i := 54) (by decide +kernel))⟩
abbrev miX5_after : Mi := (RX5, 11, (some .int), { frames := 2, cells := 0, slots := 0, locals := 58 }, "after")
theorem mo_X5_after : MOK yX5_after cX5_after miX5_after 2 := ⟨lw5 (List.mem_of_getElem? (i := 33) (by decide +kernel)), lw1 (List.mem_of_getElem? (i := 8) (by decide +kernel)), by decide +kernel, by decide +kernel, rfl, rfl⟩
theorem mv_X5_after : MOKv yX5_after := ⟨lw5 (List.mem_of_getElem? (i := 32) (by decide +kernel)), lwp (List.mem_of_getElem? (i := 62) (by decide +kernel))⟩
abbrev miX5_isStill : Mi := (RX5, 1, (some .boolean), { frames := 2, cells := 0, slots := 0, locals := 58 }, "isStill")
theorem mo_X5_isStill : MOK yX5_isStill cX5_isStill miX5_isStill 0 := ⟨lw5 (List.mem_of_getElem? (i := 80) (by decide +kernel)), lw1 (List.mem_of_getElem? (i := 8) (by decide +kernel)), by decide +kernel, by decide +kernel, rfl, rfl⟩
theorem mv_X5_isStill : MOKv yX5_isStill := ⟨lw5 (List.mem_of_getElem? (i := 79) (by decide +kernel)), lwp (List.mem_of_getElem? (i := 69) (by decide +kernel))⟩
abbrev miX5_passNights : Mi := (RX5, 9, none, { frames := 3, cells := 0, slots := 0, locals := 83 }, "passNights")
theorem mo_X5_passNights : MOK yX5_passNights cX5_passNights miX5_passNights 1 := ⟨lw5 (List.mem_of_getElem? (i := 9) (by decide +kernel)), lw1 (List.mem_of_getElem? (i := 8) (by decide +kernel)), by decide +kernel, by decide +kernel, rfl, rfl⟩
theorem mv_X5_passNights : MOKv yX5_passNights := ⟨lw5 (List.mem_of_getElem? (i := 8) (by decide +kernel)), lwp (List.mem_of_getElem? (i := 57) (by decide +kernel))⟩
abbrev miX5_passNight : Mi := (RX5, 6, none, { frames := 2, cells := 0, slots := 0, locals := 58 }, "passNight")
theorem mo_X5_passNight : MOK yX5_passNight cX5_passNight miX5_passNight 0 := ⟨lw5 (List.mem_of_getElem? (i := 13) (by decide +kernel)), lw1 (List.mem_of_getElem? (i := 8) (by decide +kernel)), by decide +kernel, by decide +kernel, rfl, rfl⟩
theorem mv_X5_passNight : MOKv yX5_passNight := ⟨lw5 (List.mem_of_getElem? (i := 12) (by decide +kernel)), lwp (List.mem_of_getElem? (i := 58) (by decide +kernel))⟩
abbrev miX5_countRulesLeft : Mi := (RX5, 3, (some .int), { frames := 0, cells := 0, slots := 0, locals := 0 }, "countRulesLeft")
theorem mo_X5_countRulesLeft : MOK yX5_countRulesLeft cX5_countRulesLeft miX5_countRulesLeft 0 := ⟨lw6 (List.mem_of_getElem? (i := 4) (by decide +kernel)), lw1 (List.mem_of_getElem? (i := 8) (by decide +kernel)), by decide +kernel, by decide +kernel, rfl, rfl⟩
theorem mv_X5_countRulesLeft : MOKv yX5_countRulesLeft := ⟨lw6 (List.mem_of_getElem? (i := 3) (by decide +kernel)), lwp (List.mem_of_getElem? (i := 88) (by decide +kernel))⟩
abbrev miX5_ruleFits : Mi := (RX5, 4, (some .boolean), { frames := 0, cells := 0, slots := 0, locals := 0 }, "ruleFits")
theorem mo_X5_ruleFits : MOK yX5_ruleFits cX5_ruleFits miX5_ruleFits 1 := ⟨lw6 (List.mem_of_getElem? (i := 12) (by decide +kernel)), lw1 (List.mem_of_getElem? (i := 8) (by decide +kernel)), by decide +kernel, by decide +kernel, rfl, rfl⟩
theorem mv_X5_ruleFits : MOKv yX5_ruleFits := ⟨lw6 (List.mem_of_getElem? (i := 11) (by decide +kernel)), lwp (List.mem_of_getElem? (i := 89) (by decide +kernel))⟩
abbrev miX5_forgetSeen : Mi := (RX5, 3, (some .int), { frames := 0, cells := 0, slots := 0, locals := 0 }, "forgetSeen")
theorem mo_X5_forgetSeen : MOK yX5_forgetSeen cX5_forgetSeen miX5_forgetSeen 0 := ⟨lw6 (List.mem_of_getElem? (i := 20) (by decide +kernel)), lw1 (List.mem_of_getElem? (i := 8) (by decide +kernel)), by decide +kernel, by decide +kernel, rfl, rfl⟩
theorem mv_X5_forgetSeen : MOKv yX5_forgetSeen := ⟨lw6 (List.mem_of_getElem? (i := 19) (by decide +kernel)), lwp (List.mem_of_getElem? (i := 90) (by decide +kernel))⟩
abbrev miX5_countNewToSee : Mi := (RX5, 4, (some .int), { frames := 1, cells := 0, slots := 0, locals := 32 }, "countNewToSee")
theorem mo_X5_countNewToSee : MOK yX5_countNewToSee cX5_countNewToSee miX5_countNewToSee 0 := ⟨lw6 (List.mem_of_getElem? (i := 28) (by decide +kernel)), lw1 (List.mem_of_getElem? (i := 8) (by decide +kernel)), by decide +kernel, by decide +kernel, rfl, rfl⟩
theorem mv_X5_countNewToSee : MOKv yX5_countNewToSee := ⟨lw6 (List.mem_of_getElem? (i := 27) (by decide +kernel)), lwp (List.mem_of_getElem? (i := 91) (by decide +kernel))⟩
abbrev miX5_lookAtRules : Mi := (RX5, 2, none, { frames := 2, cells := 0, slots := 0, locals := 58 }, "lookAtRules")
theorem mo_X5_lookAtRules : MOK yX5_lookAtRules cX5_lookAtRules miX5_lookAtRules 0 := ⟨lw6 (List.mem_of_getElem? (i := 37) (by decide +kernel)), lw1 (List.mem_of_getElem? (i := 8) (by decide +kernel)), by decide +kernel, by decide +kernel, rfl, rfl⟩
theorem mv_X5_lookAtRules : MOKv yX5_lookAtRules := ⟨lw6 (List.mem_of_getElem? (i := 36) (by decide +kernel)), lwp (List.mem_of_getElem? (i := 92) (by decide +kernel))⟩
abbrev miX5_choiceOf : Mi := (RX5, 6, (some .int), { frames := 1, cells := 0, slots := 0, locals := 21 }, "choiceOf")
theorem mo_X5_choiceOf : MOK yX5_choiceOf cX5_choiceOf miX5_choiceOf 1 := ⟨lw6 (List.mem_of_getElem? (i := 41) (by decide +kernel)), lw1 (List.mem_of_getElem? (i := 8) (by decide +kernel)), by decide +kernel, by decide +kernel, rfl, rfl⟩
theorem mv_X5_choiceOf : MOKv yX5_choiceOf := ⟨lw6 (List.mem_of_getElem? (i := 40) (by decide +kernel)), lwp (List.mem_of_getElem? (i := 93) (by decide +kernel))⟩
abbrev miX5_countVotes : Mi := (RX5, 4, (some .int), { frames := 2, cells := 0, slots := 0, locals := 46 }, "countVotes")
theorem mo_X5_countVotes : MOK yX5_countVotes cX5_countVotes miX5_countVotes 1 := ⟨lw6 (List.mem_of_getElem? (i := 50) (by decide +kernel)), lw1 (List.mem_of_getElem? (i := 8) (by decide +kernel)), by decide +kernel, by decide +kernel, rfl, rfl⟩
theorem mv_X5_countVotes : MOKv yX5_countVotes := ⟨lw6 (List.mem_of_getElem? (i := 49) (by decide +kernel)), lwp (List.mem_of_getElem? (i := 94) (by decide +kernel))⟩
abbrev miX5_holdElection : Mi := (RX5, 5, (some .boolean), { frames := 3, cells := 0, slots := 0, locals := 79 }, "holdElection")
theorem mo_X5_holdElection : MOK yX5_holdElection cX5_holdElection miX5_holdElection 0 := ⟨lw6 (List.mem_of_getElem? (i := 59) (by decide +kernel)), lw1 (List.mem_of_getElem? (i := 8) (by decide +kernel)), by decide +kernel, by decide +kernel, rfl, rfl⟩
theorem mv_X5_holdElection : MOKv yX5_holdElection := ⟨lw6 (List.mem_of_getElem? (i := 58) (by decide +kernel)), lwp (List.mem_of_getElem? (i := 95) (by decide +kernel))⟩
abbrev miX6_takeTown : Mi := (RX6, 2, (some .boolean), { frames := 5, cells := 0, slots := 0, locals := 114 }, "takeTown")
theorem mo_X6_takeTown : MOK yX6_takeTown cX6_takeTown miX6_takeTown 2 := ⟨lw3 (List.mem_of_getElem? (i := 211) (by decide +kernel)), lw1 (List.mem_of_getElem? (i := 19) (by decide +kernel)), by decide +kernel, by decide +kernel, rfl, rfl⟩
theorem ms_X6_takeTown : Cond.static yX6_takeTown ∈ lw_tbl := lw3 (List.mem_of_getElem? (i := 210) (by decide +kernel))
abbrev miX6_takeWide : Mi := (RX6, 4, (some .boolean), { frames := 2, cells := 0, slots := 0, locals := 45 }, "takeWide")
theorem mo_X6_takeWide : MOK yX6_takeWide cX6_takeWide miX6_takeWide 2 := ⟨lw3 (List.mem_of_getElem? (i := 214) (by decide +kernel)), lw1 (List.mem_of_getElem? (i := 19) (by decide +kernel)), by decide +kernel, by decide +kernel, rfl, rfl⟩
theorem ms_X6_takeWide : Cond.static yX6_takeWide ∈ lw_tbl := lw3 (List.mem_of_getElem? (i := 213) (by decide +kernel))
abbrev miX6_takeRows : Mi := (RX6, 3, (some .boolean), { frames := 2, cells := 0, slots := 0, locals := 48 }, "takeRows")
theorem mo_X6_takeRows : MOK yX6_takeRows cX6_takeRows miX6_takeRows 2 := ⟨lw4 (List.mem_of_getElem? (i := 16) (by decide +kernel)), lw1 (List.mem_of_getElem? (i := 19) (by decide +kernel)), by decide +kernel, by decide +kernel, rfl, rfl⟩
theorem ms_X6_takeRows : Cond.static yX6_takeRows ∈ lw_tbl := lw4 (List.mem_of_getElem? (i := 15) (by decide +kernel))
abbrev miX6_takeLetters : Mi := (RX6, 6, (some .boolean), { frames := 1, cells := 0, slots := 0, locals := 23 }, "takeLetters")
theorem mo_X6_takeLetters : MOK yX6_takeLetters cX6_takeLetters miX6_takeLetters 2 := ⟨lw4 (List.mem_of_getElem? (i := 20) (by decide +kernel)), lw1 (List.mem_of_getElem? (i := 19) (by decide +kernel)), by decide +kernel, by decide +kernel, rfl, rfl⟩
theorem ms_X6_takeLetters : Cond.static yX6_takeLetters ∈ lw_tbl := lw4 (List.mem_of_getElem? (i := 19) (by decide +kernel))
abbrev miX6_takeParts : Mi := (RX6, 4, (some .boolean), { frames := 4, cells := 0, slots := 0, locals := 91 }, "takeParts")
theorem mo_X6_takeParts : MOK yX6_takeParts cX6_takeParts miX6_takeParts 2 := ⟨lw4 (List.mem_of_getElem? (i := 33) (by decide +kernel)), lw1 (List.mem_of_getElem? (i := 19) (by decide +kernel)), by decide +kernel, by decide +kernel, rfl, rfl⟩
theorem ms_X6_takeParts : Cond.static yX6_takeParts ∈ lw_tbl := lw4 (List.mem_of_getElem? (i := 32) (by decide +kernel))
abbrev miX6_takeNewName : Mi := (RX6, 2, (some .boolean), { frames := 2, cells := 0, slots := 0, locals := 46 }, "takeNewName")
theorem mo_X6_takeNewName : MOK yX6_takeNewName cX6_takeNewName miX6_takeNewName 2 := ⟨lw4 (List.mem_of_getElem? (i := 43) (by decide +kernel)), lw1 (List.mem_of_getElem? (i := 19) (by decide +kernel)), by decide +kernel, by decide +kernel, rfl, rfl⟩
theorem ms_X6_takeNewName : Cond.static yX6_takeNewName ∈ lw_tbl := lw4 (List.mem_of_getElem? (i := 42) (by decide +kernel))
abbrev miX6_takeRule : Mi := (RX6, 5, (some .boolean), { frames := 3, cells := 0, slots := 0, locals := 67 }, "takeRule")
theorem mo_X6_takeRule : MOK yX6_takeRule cX6_takeRule miX6_takeRule 2 := ⟨lw4 (List.mem_of_getElem? (i := 40) (by decide +kernel)), lw1 (List.mem_of_getElem? (i := 19) (by decide +kernel)), by decide +kernel, by decide +kernel, rfl, rfl⟩
theorem ms_X6_takeRule : Cond.static yX6_takeRule ∈ lw_tbl := lw4 (List.mem_of_getElem? (i := 39) (by decide +kernel))
abbrev miX6_takeSet : Mi := (RX6, 4, (some .int), { frames := 2, cells := 0, slots := 0, locals := 43 }, "takeSet")
theorem mo_X6_takeSet : MOK yX6_takeSet cX6_takeSet miX6_takeSet 2 := ⟨lw4 (List.mem_of_getElem? (i := 62) (by decide +kernel)), lw1 (List.mem_of_getElem? (i := 19) (by decide +kernel)), by decide +kernel, by decide +kernel, rfl, rfl⟩
theorem ms_X6_takeSet : Cond.static yX6_takeSet ∈ lw_tbl := lw4 (List.mem_of_getElem? (i := 61) (by decide +kernel))
abbrev miX6_takeCitizen : Mi := (RX6, 4, (some .boolean), { frames := 3, cells := 0, slots := 0, locals := 67 }, "takeCitizen")
theorem mo_X6_takeCitizen : MOK yX6_takeCitizen cX6_takeCitizen miX6_takeCitizen 2 := ⟨lw4 (List.mem_of_getElem? (i := 67) (by decide +kernel)), lw1 (List.mem_of_getElem? (i := 19) (by decide +kernel)), by decide +kernel, by decide +kernel, rfl, rfl⟩
theorem ms_X6_takeCitizen : Cond.static yX6_takeCitizen ∈ lw_tbl := lw4 (List.mem_of_getElem? (i := 66) (by decide +kernel))
abbrev miX7_init : Mi := (RX7, 1, none, { frames := 1, cells := 3, slots := 248, locals := 12 }, "<init>")
theorem mo_X7_init : MOK yX7_init cX7_init miX7_init 0 := ⟨lw1 (List.mem_of_getElem? (i := 34) (by decide +kernel)), lw1 (List.mem_of_getElem? (i := 2) (by decide +kernel)), by decide +kernel, by decide +kernel, rfl, rfl⟩
theorem mj_X7_init : MOKi yX7_init := ⟨rfl, lw1 (List.mem_of_getElem? (i := 33) (by decide +kernel))⟩
abbrev miX7_isTray : Mi := (RX7, 1, (some .boolean), { frames := 0, cells := 0, slots := 0, locals := 0 }, "isTray")
theorem mo_X7_isTray : MOK yX7_isTray cX7_isTray miX7_isTray 1 := ⟨lw3 (List.mem_of_getElem? (i := 102) (by decide +kernel)), lw1 (List.mem_of_getElem? (i := 2) (by decide +kernel)), by decide +kernel, by decide +kernel, rfl, rfl⟩
theorem ms_X7_isTray : Cond.static yX7_isTray ∈ lw_tbl := lw3 (List.mem_of_getElem? (i := 101) (by decide +kernel))
abbrev miX7_isMissing : Mi := (RX7, 2, (some .boolean), { frames := 0, cells := 0, slots := 0, locals := 0 }, "isMissing")
theorem mo_X7_isMissing : MOK yX7_isMissing cX7_isMissing miX7_isMissing 1 := ⟨lw3 (List.mem_of_getElem? (i := 126) (by decide +kernel)), lw1 (List.mem_of_getElem? (i := 2) (by decide +kernel)), by decide +kernel, by decide +kernel, rfl, rfl⟩
theorem mv_X7_isMissing : MOKv yX7_isMissing := ⟨lw3 (List.mem_of_getElem? (i := 125) (by decide +kernel)), lwp (List.mem_of_getElem? (i := 10) (by decide +kernel))⟩
abbrev miX7_areOfOneSort : Mi := (RX7, 3, (some .boolean), { frames := 0, cells := 0, slots := 0, locals := 0 }, "areOfOneSort")
theorem mo_X7_areOfOneSort : MOK yX7_areOfOneSort cX7_areOfOneSort miX7_areOfOneSort 2 := ⟨lw3 (List.mem_of_getElem? (i := 157) (by decide +kernel)), lw1 (List.mem_of_getElem? (i := 2) (by decide +kernel)), by decide +kernel, by decide +kernel, rfl, rfl⟩
theorem mv_X7_areOfOneSort : MOKv yX7_areOfOneSort := ⟨lw3 (List.mem_of_getElem? (i := 156) (by decide +kernel)), lwp (List.mem_of_getElem? (i := 15) (by decide +kernel))⟩
abbrev miX7_hasRoom : Mi := (RX7, 4, (some .boolean), { frames := 0, cells := 0, slots := 0, locals := 0 }, "hasRoom")
theorem mo_X7_hasRoom : MOK yX7_hasRoom cX7_hasRoom miX7_hasRoom 3 := ⟨lw3 (List.mem_of_getElem? (i := 130) (by decide +kernel)), lw1 (List.mem_of_getElem? (i := 2) (by decide +kernel)), by decide +kernel, by decide +kernel, rfl, rfl⟩
theorem mv_X7_hasRoom : MOKv yX7_hasRoom := ⟨lw3 (List.mem_of_getElem? (i := 129) (by decide +kernel)), lwp (List.mem_of_getElem? (i := 11) (by decide +kernel))⟩
abbrev miX7_make : Mi := (RX7, 5, none, { frames := 0, cells := 0, slots := 0, locals := 0 }, "make")
theorem mo_X7_make : MOK yX7_make cX7_make miX7_make 3 := ⟨lw3 (List.mem_of_getElem? (i := 110) (by decide +kernel)), lw1 (List.mem_of_getElem? (i := 2) (by decide +kernel)), by decide +kernel, by decide +kernel, rfl, rfl⟩
theorem mv_X7_make : MOKv yX7_make := ⟨lw3 (List.mem_of_getElem? (i := 109) (by decide +kernel)), lwp (List.mem_of_getElem? (i := 7) (by decide +kernel))⟩
abbrev miX7_numberAt : Mi := (RX7, 3, (some .long), { frames := 0, cells := 0, slots := 0, locals := 0 }, "numberAt")
theorem mo_X7_numberAt : MOK yX7_numberAt cX7_numberAt miX7_numberAt 2 := ⟨lw3 (List.mem_of_getElem? (i := 149) (by decide +kernel)), lw1 (List.mem_of_getElem? (i := 2) (by decide +kernel)), by decide +kernel, by decide +kernel, rfl, rfl⟩
theorem mv_X7_numberAt : MOKv yX7_numberAt := ⟨lw3 (List.mem_of_getElem? (i := 148) (by decide +kernel)), lwp (List.mem_of_getElem? (i := 14) (by decide +kernel))⟩
abbrev miX7_put : Mi := (RX7, 5, none, { frames := 1, cells := 0, slots := 0, locals := 22 }, "put")
theorem mo_X7_put : MOK yX7_put cX7_put miX7_put 3 := ⟨lw3 (List.mem_of_getElem? (i := 134) (by decide +kernel)), lw1 (List.mem_of_getElem? (i := 2) (by decide +kernel)), by decide +kernel, by decide +kernel, rfl, rfl⟩
theorem mv_X7_put : MOKv yX7_put := ⟨lw3 (List.mem_of_getElem? (i := 133) (by decide +kernel)), lwp (List.mem_of_getElem? (i := 12) (by decide +kernel))⟩
abbrev miX7_cut : Mi := (RX7, 3, (some .long), { frames := 0, cells := 0, slots := 0, locals := 0 }, "cut")
theorem mo_X7_cut : MOK yX7_cut cX7_cut miX7_cut 2 := ⟨lw3 (List.mem_of_getElem? (i := 137) (by decide +kernel)), lw1 (List.mem_of_getElem? (i := 2) (by decide +kernel)), by decide +kernel, by decide +kernel, rfl, rfl⟩
theorem ms_X7_cut : Cond.static yX7_cut ∈ lw_tbl := lw3 (List.mem_of_getElem? (i := 136) (by decide +kernel))
abbrev miX7_copy : Mi := (RX7, 6, none, { frames := 1, cells := 0, slots := 0, locals := 26 }, "copy")
theorem mo_X7_copy : MOK yX7_copy cX7_copy miX7_copy 5 := ⟨lw3 (List.mem_of_getElem? (i := 161) (by decide +kernel)), lw1 (List.mem_of_getElem? (i := 2) (by decide +kernel)), by decide +kernel, by decide +kernel, rfl, rfl⟩
theorem mv_X7_copy : MOKv yX7_copy := ⟨lw3 (List.mem_of_getElem? (i := 160) (by decide +kernel)), lwp (List.mem_of_getElem? (i := 16) (by decide +kernel))⟩
abbrev miX8_init : Mi := (RX8, 1, none, { frames := 1, cells := 1, slots := 30, locals := 12 }, "<init>")
theorem mo_X8_init : MOK yX8_init cX8_init miX8_init 0 := ⟨lw2 (List.mem_of_getElem? (i := 189) (by decide +kernel)), lw1 (List.mem_of_getElem? (i := 13) (by decide +kernel)), by decide +kernel, by decide +kernel, rfl, rfl⟩
theorem mj_X8_init : MOKi yX8_init := ⟨rfl, lw2 (List.mem_of_getElem? (i := 188) (by decide +kernel))⟩
abbrev miX8_listLamps : Mi := (RX8, 3, none, { frames := 0, cells := 0, slots := 0, locals := 0 }, "listLamps")
theorem mo_X8_listLamps : MOK yX8_listLamps cX8_listLamps miX8_listLamps 1 := ⟨lw5 (List.mem_of_getElem? (i := 175) (by decide +kernel)), lw1 (List.mem_of_getElem? (i := 13) (by decide +kernel)), by decide +kernel, by decide +kernel, rfl, rfl⟩
theorem mv_X8_listLamps : MOKv yX8_listLamps := ⟨lw5 (List.mem_of_getElem? (i := 174) (by decide +kernel)), lwp (List.mem_of_getElem? (i := 79) (by decide +kernel))⟩
abbrev miX8_findSignal : Mi := (RX8, 4, (some .boolean), { frames := 5, cells := 0, slots := 0, locals := 138 }, "findSignal")
theorem mo_X8_findSignal : MOK yX8_findSignal cX8_findSignal miX8_findSignal 3 := ⟨lw5 (List.mem_of_getElem? (i := 164) (by decide +kernel)), lw1 (List.mem_of_getElem? (i := 13) (by decide +kernel)), by decide +kernel, by decide +kernel, rfl, rfl⟩
theorem mv_X8_findSignal : MOKv yX8_findSignal := ⟨lw5 (List.mem_of_getElem? (i := 163) (by decide +kernel)), lwp (List.mem_of_getElem? (i := 77) (by decide +kernel))⟩
abbrev miX8_near : Mi := (RX8, 5, (some .int), { frames := 1, cells := 0, slots := 0, locals := 22 }, "near")
theorem mo_X8_near : MOK yX8_near cX8_near miX8_near 3 := ⟨lw5 (List.mem_of_getElem? (i := 167) (by decide +kernel)), lw1 (List.mem_of_getElem? (i := 13) (by decide +kernel)), by decide +kernel, by decide +kernel, rfl, rfl⟩
theorem ms_X8_near : Cond.static yX8_near ∈ lw_tbl := lw5 (List.mem_of_getElem? (i := 166) (by decide +kernel))
abbrev miX8_trySet : Mi := (RX8, 5, (some .boolean), { frames := 3, cells := 0, slots := 0, locals := 88 }, "trySet")
theorem mo_X8_trySet : MOK yX8_trySet cX8_trySet miX8_trySet 4 := ⟨lw5 (List.mem_of_getElem? (i := 179) (by decide +kernel)), lw1 (List.mem_of_getElem? (i := 13) (by decide +kernel)), by decide +kernel, by decide +kernel, rfl, rfl⟩
theorem mv_X8_trySet : MOKv yX8_trySet := ⟨lw5 (List.mem_of_getElem? (i := 178) (by decide +kernel)), lwp (List.mem_of_getElem? (i := 80) (by decide +kernel))⟩
abbrev miX8_tryOnes : Mi := (RX8, 5, (some .boolean), { frames := 4, cells := 0, slots := 0, locals := 112 }, "tryOnes")
theorem mo_X8_tryOnes : MOK yX8_tryOnes cX8_tryOnes miX8_tryOnes 3 := ⟨lw5 (List.mem_of_getElem? (i := 184) (by decide +kernel)), lw1 (List.mem_of_getElem? (i := 13) (by decide +kernel)), by decide +kernel, by decide +kernel, rfl, rfl⟩
theorem mv_X8_tryOnes : MOKv yX8_tryOnes := ⟨lw5 (List.mem_of_getElem? (i := 183) (by decide +kernel)), lwp (List.mem_of_getElem? (i := 81) (by decide +kernel))⟩
abbrev miX8_tryTwos : Mi := (RX8, 6, (some .boolean), { frames := 4, cells := 0, slots := 0, locals := 112 }, "tryTwos")
theorem mo_X8_tryTwos : MOK yX8_tryTwos cX8_tryTwos miX8_tryTwos 3 := ⟨lw5 (List.mem_of_getElem? (i := 188) (by decide +kernel)), lw1 (List.mem_of_getElem? (i := 13) (by decide +kernel)), by decide +kernel, by decide +kernel, rfl, rfl⟩
theorem mv_X8_tryTwos : MOKv yX8_tryTwos := ⟨lw5 (List.mem_of_getElem? (i := 187) (by decide +kernel)), lwp (List.mem_of_getElem? (i := 82) (by decide +kernel))⟩
abbrev miX8_tryThrees : Mi := (RX8, 7, (some .boolean), { frames := 4, cells := 0, slots := 0, locals := 112 }, "tryThrees")
theorem mo_X8_tryThrees : MOK yX8_tryThrees cX8_tryThrees miX8_tryThrees 3 := ⟨lw5 (List.mem_of_getElem? (i := 192) (by decide +kernel)), lw1 (List.mem_of_getElem? (i := 13) (by decide +kernel)), by decide +kernel, by decide +kernel, rfl, rfl⟩
theorem mv_X8_tryThrees : MOKv yX8_tryThrees := ⟨lw5 (List.mem_of_getElem? (i := 191) (by decide +kernel)), lwp (List.mem_of_getElem? (i := 83) (by decide +kernel))⟩
abbrev miX8_countSpoilt : Mi := (RX8, 4, (some .int), { frames := 3, cells := 0, slots := 0, locals := 88 }, "countSpoilt")
theorem mo_X8_countSpoilt : MOK yX8_countSpoilt cX8_countSpoilt miX8_countSpoilt 3 := ⟨lw5 (List.mem_of_getElem? (i := 199) (by decide +kernel)), lw1 (List.mem_of_getElem? (i := 13) (by decide +kernel)), by decide +kernel, by decide +kernel, rfl, rfl⟩
theorem ms_X8_countSpoilt : Cond.static yX8_countSpoilt ∈ lw_tbl := lw5 (List.mem_of_getElem? (i := 198) (by decide +kernel))
abbrev miX8_findWorst : Mi := (RX8, 5, none, { frames := 4, cells := 0, slots := 0, locals := 111 }, "findWorst")
theorem mo_X8_findWorst : MOK yX8_findWorst cX8_findWorst miX8_findWorst 2 := ⟨lw5 (List.mem_of_getElem? (i := 208) (by decide +kernel)), lw1 (List.mem_of_getElem? (i := 13) (by decide +kernel)), by decide +kernel, by decide +kernel, rfl, rfl⟩
theorem mv_X8_findWorst : MOKv yX8_findWorst := ⟨lw5 (List.mem_of_getElem? (i := 207) (by decide +kernel)), lwp (List.mem_of_getElem? (i := 84) (by decide +kernel))⟩
abbrev miX8_findMend : Mi := (RX8, 5, none, { frames := 4, cells := 0, slots := 0, locals := 104 }, "findMend")
theorem mo_X8_findMend : MOK yX8_findMend cX8_findMend miX8_findMend 2 := ⟨lw5 (List.mem_of_getElem? (i := 217) (by decide +kernel)), lw1 (List.mem_of_getElem? (i := 13) (by decide +kernel)), by decide +kernel, by decide +kernel, rfl, rfl⟩
theorem mv_X8_findMend : MOKv yX8_findMend := ⟨lw5 (List.mem_of_getElem? (i := 216) (by decide +kernel)), lwp (List.mem_of_getElem? (i := 85) (by decide +kernel))⟩
abbrev miX8_tryMend : Mi := (RX8, 6, none, { frames := 3, cells := 0, slots := 0, locals := 79 }, "tryMend")
theorem mo_X8_tryMend : MOK yX8_tryMend cX8_tryMend miX8_tryMend 3 := ⟨lw5 (List.mem_of_getElem? (i := 221) (by decide +kernel)), lw1 (List.mem_of_getElem? (i := 13) (by decide +kernel)), by decide +kernel, by decide +kernel, rfl, rfl⟩
theorem mv_X8_tryMend : MOKv yX8_tryMend := ⟨lw5 (List.mem_of_getElem? (i := 220) (by decide +kernel)), lwp (List.mem_of_getElem? (i := 86) (by decide +kernel))⟩
abbrev miX9_init : Mi := (RX9, 1, none, { frames := 1, cells := 5, slots := 300, locals := 12 }, "<init>")
theorem mo_X9_init : MOK yX9_init cX9_init miX9_init 0 := ⟨lw1 (List.mem_of_getElem? (i := 229) (by decide +kernel)), lw1 (List.mem_of_getElem? (i := 10) (by decide +kernel)), by decide +kernel, by decide +kernel, rfl, rfl⟩
theorem mj_X9_init : MOKi yX9_init := ⟨rfl, lw1 (List.mem_of_getElem? (i := 228) (by decide +kernel))⟩
abbrev miX9_makeNone : Mi := (RX9, 1, none, { frames := 0, cells := 0, slots := 0, locals := 0 }, "makeNone")
theorem mo_X9_makeNone : MOK yX9_makeNone cX9_makeNone miX9_makeNone 0 := ⟨lw3 (List.mem_of_getElem? (i := 26) (by decide +kernel)), lw1 (List.mem_of_getElem? (i := 10) (by decide +kernel)), by decide +kernel, by decide +kernel, rfl, rfl⟩
theorem mv_X9_makeNone : MOKv yX9_makeNone := ⟨lw3 (List.mem_of_getElem? (i := 25) (by decide +kernel)), lwp (List.mem_of_getElem? (i := 3) (by decide +kernel))⟩
abbrev miX9_makeEmpty : Mi := (RX9, 1, none, { frames := 1, cells := 0, slots := 0, locals := 20 }, "makeEmpty")
theorem mo_X9_makeEmpty : MOK yX9_makeEmpty cX9_makeEmpty miX9_makeEmpty 0 := ⟨lw4 (List.mem_of_getElem? (i := 85) (by decide +kernel)), lw1 (List.mem_of_getElem? (i := 10) (by decide +kernel)), by decide +kernel, by decide +kernel, rfl, rfl⟩
theorem mv_X9_makeEmpty : MOKv yX9_makeEmpty := ⟨lw4 (List.mem_of_getElem? (i := 84) (by decide +kernel)), lwp (List.mem_of_getElem? (i := 42) (by decide +kernel))⟩
abbrev miX9_copyFrom : Mi := (RX9, 2, none, { frames := 1, cells := 0, slots := 0, locals := 26 }, "copyFrom")
theorem mo_X9_copyFrom : MOK yX9_copyFrom cX9_copyFrom miX9_copyFrom 1 := ⟨lw4 (List.mem_of_getElem? (i := 149) (by decide +kernel)), lw1 (List.mem_of_getElem? (i := 10) (by decide +kernel)), by decide +kernel, by decide +kernel, rfl, rfl⟩
theorem mv_X9_copyFrom : MOKv yX9_copyFrom := ⟨lw4 (List.mem_of_getElem? (i := 148) (by decide +kernel)), lwp (List.mem_of_getElem? (i := 47) (by decide +kernel))⟩
abbrev miX9_add : Mi := (RX9, 2, none, { frames := 0, cells := 0, slots := 0, locals := 0 }, "add")
theorem mo_X9_add : MOK yX9_add cX9_add miX9_add 1 := ⟨lw4 (List.mem_of_getElem? (i := 106) (by decide +kernel)), lw1 (List.mem_of_getElem? (i := 10) (by decide +kernel)), by decide +kernel, by decide +kernel, rfl, rfl⟩
theorem mv_X9_add : MOKv yX9_add := ⟨lw4 (List.mem_of_getElem? (i := 105) (by decide +kernel)), lwp (List.mem_of_getElem? (i := 44) (by decide +kernel))⟩
abbrev miX9_openEntry : Mi := (RX9, 2, (some .int), { frames := 1, cells := 0, slots := 0, locals := 20 }, "openEntry")
theorem mo_X9_openEntry : MOK yX9_openEntry cX9_openEntry miX9_openEntry 0 := ⟨lw4 (List.mem_of_getElem? (i := 98) (by decide +kernel)), lw1 (List.mem_of_getElem? (i := 10) (by decide +kernel)), by decide +kernel, by decide +kernel, rfl, rfl⟩
theorem mv_X9_openEntry : MOKv yX9_openEntry := ⟨lw4 (List.mem_of_getElem? (i := 97) (by decide +kernel)), lwp (List.mem_of_getElem? (i := 43) (by decide +kernel))⟩
abbrev miX9_countOpen : Mi := (RX9, 3, (some .int), { frames := 1, cells := 0, slots := 0, locals := 20 }, "countOpen")
theorem mo_X9_countOpen : MOK yX9_countOpen cX9_countOpen miX9_countOpen 0 := ⟨lw4 (List.mem_of_getElem? (i := 122) (by decide +kernel)), lw1 (List.mem_of_getElem? (i := 10) (by decide +kernel)), by decide +kernel, by decide +kernel, rfl, rfl⟩
theorem mv_X9_countOpen : MOKv yX9_countOpen := ⟨lw4 (List.mem_of_getElem? (i := 121) (by decide +kernel)), lwp (List.mem_of_getElem? (i := 46) (by decide +kernel))⟩
abbrev miX9_isBlock : Mi := (RX9, 1, (some .boolean), { frames := 0, cells := 0, slots := 0, locals := 0 }, "isBlock")
theorem mo_X9_isBlock : MOK yX9_isBlock cX9_isBlock miX9_isBlock 1 := ⟨lw4 (List.mem_of_getElem? (i := 101) (by decide +kernel)), lw1 (List.mem_of_getElem? (i := 10) (by decide +kernel)), by decide +kernel, by decide +kernel, rfl, rfl⟩
theorem ms_X9_isBlock : Cond.static yX9_isBlock ∈ lw_tbl := lw4 (List.mem_of_getElem? (i := 100) (by decide +kernel))
abbrev miX10_takeYear : Mi := (RX10, 6, (some .boolean), { frames := 5, cells := 0, slots := 0, locals := 113 }, "takeYear")
theorem mo_X10_takeYear : MOK yX10_takeYear cX10_takeYear miX10_takeYear 3 := ⟨lw4 (List.mem_of_getElem? (i := 89) (by decide +kernel)), lw1 (List.mem_of_getElem? (i := 21) (by decide +kernel)), by decide +kernel, by decide +kernel, rfl, rfl⟩
theorem ms_X10_takeYear : Cond.static yX10_takeYear ∈ lw_tbl := lw4 (List.mem_of_getElem? (i := 88) (by decide +kernel))
abbrev miX10_takeEnd : Mi := (RX10, 4, (some .boolean), { frames := 2, cells := 0, slots := 0, locals := 41 }, "takeEnd")
theorem mo_X10_takeEnd : MOK yX10_takeEnd cX10_takeEnd miX10_takeEnd 2 := ⟨lw4 (List.mem_of_getElem? (i := 94) (by decide +kernel)), lw1 (List.mem_of_getElem? (i := 21) (by decide +kernel)), by decide +kernel, by decide +kernel, rfl, rfl⟩
theorem ms_X10_takeEnd : Cond.static yX10_takeEnd ∈ lw_tbl := lw4 (List.mem_of_getElem? (i := 93) (by decide +kernel))
abbrev miX10_takeStepWord : Mi := (RX10, 3, (some .boolean), { frames := 2, cells := 0, slots := 0, locals := 42 }, "takeStepWord")
theorem mo_X10_takeStepWord : MOK yX10_takeStepWord cX10_takeStepWord miX10_takeStepWord 2 := ⟨lw4 (List.mem_of_getElem? (i := 110) (by decide +kernel)), lw1 (List.mem_of_getElem? (i := 21) (by decide +kernel)), by decide +kernel, by decide +kernel, rfl, rfl⟩
theorem ms_X10_takeStepWord : Cond.static yX10_takeStepWord ∈ lw_tbl := lw4 (List.mem_of_getElem? (i := 109) (by decide +kernel))
abbrev miX10_isStep : Mi := (RX10, 1, (some .boolean), { frames := 0, cells := 0, slots := 0, locals := 0 }, "isStep")
theorem mo_X10_isStep : MOK yX10_isStep cX10_isStep miX10_isStep 1 := ⟨lw4 (List.mem_of_getElem? (i := 117) (by decide +kernel)), lw1 (List.mem_of_getElem? (i := 21) (by decide +kernel)), by decide +kernel, by decide +kernel, rfl, rfl⟩
theorem ms_X10_isStep : Cond.static yX10_isStep ∈ lw_tbl := lw4 (List.mem_of_getElem? (i := 116) (by decide +kernel))
abbrev miX10_takeRest : Mi := (RX10, 4, (some .boolean), { frames := 4, cells := 0, slots := 0, locals := 90 }, "takeRest")
theorem mo_X10_takeRest : MOK yX10_takeRest cX10_takeRest miX10_takeRest 4 := ⟨lw4 (List.mem_of_getElem? (i := 125) (by decide +kernel)), lw1 (List.mem_of_getElem? (i := 21) (by decide +kernel)), by decide +kernel, by decide +kernel, rfl, rfl⟩
theorem ms_X10_takeRest : Cond.static yX10_takeRest ∈ lw_tbl := lw4 (List.mem_of_getElem? (i := 124) (by decide +kernel))
abbrev miX10_takeFirst : Mi := (RX10, 5, (some .boolean), { frames := 2, cells := 0, slots := 0, locals := 43 }, "takeFirst")
theorem mo_X10_takeFirst : MOK yX10_takeFirst cX10_takeFirst miX10_takeFirst 5 := ⟨lw4 (List.mem_of_getElem? (i := 128) (by decide +kernel)), lw1 (List.mem_of_getElem? (i := 21) (by decide +kernel)), by decide +kernel, by decide +kernel, rfl, rfl⟩
theorem ms_X10_takeFirst : Cond.static yX10_takeFirst ∈ lw_tbl := lw4 (List.mem_of_getElem? (i := 127) (by decide +kernel))
abbrev miX10_takePlace : Mi := (RX10, 4, (some .boolean), { frames := 2, cells := 0, slots := 0, locals := 43 }, "takePlace")
theorem mo_X10_takePlace : MOK yX10_takePlace cX10_takePlace miX10_takePlace 4 := ⟨lw4 (List.mem_of_getElem? (i := 132) (by decide +kernel)), lw1 (List.mem_of_getElem? (i := 21) (by decide +kernel)), by decide +kernel, by decide +kernel, rfl, rfl⟩
theorem ms_X10_takePlace : Cond.static yX10_takePlace ∈ lw_tbl := lw4 (List.mem_of_getElem? (i := 131) (by decide +kernel))
abbrev miX10_takeRuleName : Mi := (RX10, 5, (some .boolean), { frames := 1, cells := 0, slots := 0, locals := 23 }, "takeRuleName")
theorem mo_X10_takeRuleName : MOK yX10_takeRuleName cX10_takeRuleName miX10_takeRuleName 4 := ⟨lw4 (List.mem_of_getElem? (i := 135) (by decide +kernel)), lw1 (List.mem_of_getElem? (i := 21) (by decide +kernel)), by decide +kernel, by decide +kernel, rfl, rfl⟩
theorem ms_X10_takeRuleName : Cond.static yX10_takeRuleName ∈ lw_tbl := lw4 (List.mem_of_getElem? (i := 134) (by decide +kernel))
abbrev miX10_takeTest : Mi := (RX10, 4, (some .boolean), { frames := 3, cells := 0, slots := 0, locals := 67 }, "takeTest")
theorem mo_X10_takeTest : MOK yX10_takeTest cX10_takeTest miX10_takeTest 4 := ⟨lw4 (List.mem_of_getElem? (i := 141) (by decide +kernel)), lw1 (List.mem_of_getElem? (i := 21) (by decide +kernel)), by decide +kernel, by decide +kernel, rfl, rfl⟩
theorem ms_X10_takeTest : Cond.static yX10_takeTest ∈ lw_tbl := lw4 (List.mem_of_getElem? (i := 140) (by decide +kernel))
abbrev miJ6_bitCount_0f7a4 : Mi := (RJ6, 1, (some .int), { frames := 0, cells := 0, slots := 0, locals := 0 }, "bitCount")
theorem mo_J6_bitCount_0f7a4 : MOK yJ6_bitCount_0f7a4 cJ6_bitCount_0f7a4 miJ6_bitCount_0f7a4 1 := ⟨lw4 (List.mem_of_getElem? (i := 70) (by decide +kernel)), lw1 (List.mem_of_getElem? (i := 20) (by decide +kernel)), by decide +kernel, by decide +kernel, rfl, rfl⟩
theorem ms_J6_bitCount_0f7a4 : Cond.static yJ6_bitCount_0f7a4 ∈ lw_tbl := lw4 (List.mem_of_getElem? (i := 69) (by decide +kernel))
abbrev miJ7_fill_53178 : Mi := (RJ7, 4, none, { frames := 0, cells := 0, slots := 0, locals := 0 }, "fill")
theorem mo_J7_fill_53178 : MOK yJ7_fill_53178 cJ7_fill_53178 miJ7_fill_53178 2 := ⟨lw3 (List.mem_of_getElem? (i := 29) (by decide +kernel)), lw1 (List.mem_of_getElem? (i := 15) (by decide +kernel)), by decide +kernel, by decide +kernel, rfl, rfl⟩
theorem ms_J7_fill_53178 : Cond.static yJ7_fill_53178 ∈ lw_tbl := lw3 (List.mem_of_getElem? (i := 28) (by decide +kernel))
abbrev miJ0_length_8abf5 : Mi := (RJ0, 1, (some .int), { frames := 1, cells := 0, slots := 0, locals := 20 }, "length")
theorem mo_J0_length_8abf5 : MOK yJ0_length_8abf5 cJ0_length_8abf5 miJ0_length_8abf5 0 := ⟨lw1 (List.mem_of_getElem? (i := 58) (by decide +kernel)), lw1 (List.mem_of_getElem? (i := 4) (by decide +kernel)), by decide +kernel, by decide +kernel, rfl, rfl⟩
theorem mv_J0_length_8abf5 : MOKv yJ0_length_8abf5 := ⟨lw1 (List.mem_of_getElem? (i := 56) (by decide +kernel)), lw1 (List.mem_of_getElem? (i := 57) (by decide +kernel))⟩
abbrev miJ0_charAt_5068e : Mi := (RJ0, 2, (some .char), { frames := 4, cells := 0, slots := 0, locals := 85 }, "charAt")
theorem mo_J0_charAt_5068e : MOK yJ0_charAt_5068e cJ0_charAt_5068e miJ0_charAt_5068e 1 := ⟨lw1 (List.mem_of_getElem? (i := 68) (by decide +kernel)), lw1 (List.mem_of_getElem? (i := 4) (by decide +kernel)), by decide +kernel, by decide +kernel, rfl, rfl⟩
theorem mv_J0_charAt_5068e : MOKv yJ0_charAt_5068e := ⟨lw1 (List.mem_of_getElem? (i := 66) (by decide +kernel)), lw1 (List.mem_of_getElem? (i := 67) (by decide +kernel))⟩
theorem lk_X11_1 : Cond.methodLink RX11 1 Lib.objectInit ∈ lw_tbl := lw1 (List.mem_of_getElem? (i := 27) (by decide +kernel))
theorem kl_X11_7 : Cond.classLink RX11 7 "WindowHill$Trays" ∈ lw_tbl := lw1 (List.mem_of_getElem? (i := 30) (by decide +kernel))
theorem ml_X11_9 : MLk RX11 9 yX7_init := Or.inr ⟨"WindowHill", lw1 (List.mem_of_getElem? (i := 32) (by decide +kernel))⟩
theorem fl_X11_10 : FLk RX11 10 9 0 := ⟨(RX11, TX11, 15), rfl, by decide, cok_X11, Or.inl (lw3 (List.mem_of_getElem? (i := 38) (by decide +kernel)))⟩
theorem fo_X11_10 : Cond.fieldLink RX11 10 RX11 (TX11 0).2.1 (TX11 0).2.2.1 ∈ lw_tbl := lw3 (List.mem_of_getElem? (i := 38) (by decide +kernel))
theorem kl_X11_16 : Cond.classLink RX11 16 "WindowHill$Tokens" ∈ lw_tbl := lw1 (List.mem_of_getElem? (i := 48) (by decide +kernel))
theorem ml_X11_18 : MLk RX11 18 yX4_init := Or.inr ⟨"WindowHill", lw1 (List.mem_of_getElem? (i := 50) (by decide +kernel))⟩
theorem fl_X11_19 : FLk RX11 19 9 1 := ⟨(RX11, TX11, 15), rfl, by decide, cok_X11, Or.inl (lw3 (List.mem_of_getElem? (i := 39) (by decide +kernel)))⟩
theorem fo_X11_19 : Cond.fieldLink RX11 19 RX11 (TX11 1).2.1 (TX11 1).2.2.1 ∈ lw_tbl := lw3 (List.mem_of_getElem? (i := 39) (by decide +kernel))
theorem kl_X11_23 : Cond.classLink RX11 23 "WindowHill$Town" ∈ lw_tbl := lw1 (List.mem_of_getElem? (i := 154) (by decide +kernel))
theorem ml_X11_25 : MLk RX11 25 yX5_init := Or.inr ⟨"WindowHill", lw1 (List.mem_of_getElem? (i := 157) (by decide +kernel))⟩
theorem fl_X11_26 : FLk RX11 26 9 2 := ⟨(RX11, TX11, 15), rfl, by decide, cok_X11, Or.inl (lw3 (List.mem_of_getElem? (i := 40) (by decide +kernel)))⟩
theorem fo_X11_26 : Cond.fieldLink RX11 26 RX11 (TX11 2).2.1 (TX11 2).2.2.1 ∈ lw_tbl := lw3 (List.mem_of_getElem? (i := 40) (by decide +kernel))
theorem kl_X11_30 : Cond.classLink RX11 30 "WindowHill$Ancestry" ∈ lw_tbl := lw2 (List.mem_of_getElem? (i := 113) (by decide +kernel))
theorem ml_X11_32 : MLk RX11 32 yX0_init := Or.inr ⟨"WindowHill", lw2 (List.mem_of_getElem? (i := 115) (by decide +kernel))⟩
theorem fl_X11_33 : FLk RX11 33 9 3 := ⟨(RX11, TX11, 15), rfl, by decide, cok_X11, Or.inl (lw3 (List.mem_of_getElem? (i := 41) (by decide +kernel)))⟩
theorem fo_X11_33 : Cond.fieldLink RX11 33 RX11 (TX11 3).2.1 (TX11 3).2.2.1 ∈ lw_tbl := lw3 (List.mem_of_getElem? (i := 41) (by decide +kernel))
theorem kl_X11_37 : Cond.classLink RX11 37 "WindowHill$Paths" ∈ lw_tbl := lw2 (List.mem_of_getElem? (i := 149) (by decide +kernel))
theorem ml_X11_39 : MLk RX11 39 yX3_init := Or.inr ⟨"WindowHill", lw2 (List.mem_of_getElem? (i := 151) (by decide +kernel))⟩
theorem fl_X11_40 : FLk RX11 40 9 4 := ⟨(RX11, TX11, 15), rfl, by decide, cok_X11, Or.inl (lw3 (List.mem_of_getElem? (i := 42) (by decide +kernel)))⟩
theorem fo_X11_40 : Cond.fieldLink RX11 40 RX11 (TX11 4).2.1 (TX11 4).2.2.1 ∈ lw_tbl := lw3 (List.mem_of_getElem? (i := 42) (by decide +kernel))
theorem kl_X11_44 : Cond.classLink RX11 44 "WindowHill$Turning" ∈ lw_tbl := lw2 (List.mem_of_getElem? (i := 185) (by decide +kernel))
theorem ml_X11_46 : MLk RX11 46 yX8_init := Or.inr ⟨"WindowHill", lw2 (List.mem_of_getElem? (i := 187) (by decide +kernel))⟩
theorem fl_X11_47 : FLk RX11 47 9 5 := ⟨(RX11, TX11, 15), rfl, by decide, cok_X11, Or.inl (lw3 (List.mem_of_getElem? (i := 43) (by decide +kernel)))⟩
theorem fo_X11_47 : Cond.fieldLink RX11 47 RX11 (TX11 5).2.1 (TX11 5).2.2.1 ∈ lw_tbl := lw3 (List.mem_of_getElem? (i := 43) (by decide +kernel))
theorem kl_X11_51 : Cond.classLink RX11 51 "WindowHill$Living" ∈ lw_tbl := lw2 (List.mem_of_getElem? (i := 214) (by decide +kernel))
theorem ml_X11_53 : MLk RX11 53 yX2_init := Or.inr ⟨"WindowHill", lw2 (List.mem_of_getElem? (i := 216) (by decide +kernel))⟩
theorem fl_X11_54 : FLk RX11 54 9 6 := ⟨(RX11, TX11, 15), rfl, by decide, cok_X11, Or.inl (lw3 (List.mem_of_getElem? (i := 44) (by decide +kernel)))⟩
theorem fo_X11_54 : Cond.fieldLink RX11 54 RX11 (TX11 6).2.1 (TX11 6).2.2.1 ∈ lw_tbl := lw3 (List.mem_of_getElem? (i := 44) (by decide +kernel))
theorem fl_X11_58 : FLk RX11 58 9 7 := ⟨(RX11, TX11, 15), rfl, by decide, cok_X11, Or.inl (lw3 (List.mem_of_getElem? (i := 45) (by decide +kernel)))⟩
theorem fo_X11_58 : Cond.fieldLink RX11 58 RX11 (TX11 7).2.1 (TX11 7).2.2.1 ∈ lw_tbl := lw3 (List.mem_of_getElem? (i := 45) (by decide +kernel))
theorem fl_X11_61 : FLk RX11 61 9 8 := ⟨(RX11, TX11, 15), rfl, by decide, cok_X11, Or.inl (lw3 (List.mem_of_getElem? (i := 46) (by decide +kernel)))⟩
theorem fl_X11_65 : FLk RX11 65 9 9 := ⟨(RX11, TX11, 15), rfl, by decide, cok_X11, Or.inl (lw3 (List.mem_of_getElem? (i := 47) (by decide +kernel)))⟩
theorem fl_X11_68 : FLk RX11 68 9 13 := ⟨(RX11, TX11, 15), rfl, by decide, cok_X11, Or.inl (lw3 (List.mem_of_getElem? (i := 51) (by decide +kernel)))⟩
theorem ml_X11_72 : MLk RX11 72 yX5_makeOneDarkHouse := Or.inr ⟨"WindowHill", lw3 (List.mem_of_getElem? (i := 11) (by decide +kernel))⟩
theorem fl_X11_75 : FLk RX11 75 9 11 := ⟨(RX11, TX11, 15), rfl, by decide, cok_X11, Or.inl (lw3 (List.mem_of_getElem? (i := 49) (by decide +kernel)))⟩
theorem fl_X11_79 : FLk RX11 79 9 12 := ⟨(RX11, TX11, 15), rfl, by decide, cok_X11, Or.inl (lw3 (List.mem_of_getElem? (i := 50) (by decide +kernel)))⟩
theorem ml_X11_82 : MLk RX11 82 yX7_isTray := Or.inr ⟨"WindowHill", lw3 (List.mem_of_getElem? (i := 100) (by decide +kernel))⟩
theorem ml_X11_86 : MLk RX11 86 yX11_deny := Or.inl (lw3 (List.mem_of_getElem? (i := 103) (by decide +kernel)))
theorem ml_X11_89 : MLk RX11 89 yX7_make := Or.inr ⟨"WindowHill", lw3 (List.mem_of_getElem? (i := 107) (by decide +kernel))⟩
theorem ml_X11_93 : MLk RX11 93 yX11_allow := Or.inl (lw3 (List.mem_of_getElem? (i := 111) (by decide +kernel)))
theorem ml_X11_97 : MLk RX11 97 yX11_whyNotInTray := Or.inl (lw3 (List.mem_of_getElem? (i := 119) (by decide +kernel)))
theorem ml_X11_101 : MLk RX11 101 yX7_put := Or.inr ⟨"WindowHill", lw3 (List.mem_of_getElem? (i := 131) (by decide +kernel))⟩
theorem ml_X11_105 : MLk RX11 105 yX11_refuse := Or.inl (lw3 (List.mem_of_getElem? (i := 142) (by decide +kernel)))
theorem ml_X11_109 : MLk RX11 109 yX7_numberAt := Or.inr ⟨"WindowHill", lw3 (List.mem_of_getElem? (i := 146) (by decide +kernel))⟩
theorem ml_X11_113 : MLk RX11 113 yX7_isMissing := Or.inr ⟨"WindowHill", lw3 (List.mem_of_getElem? (i := 123) (by decide +kernel))⟩
theorem ml_X11_116 : MLk RX11 116 yX7_areOfOneSort := Or.inr ⟨"WindowHill", lw3 (List.mem_of_getElem? (i := 154) (by decide +kernel))⟩
theorem ml_X11_120 : MLk RX11 120 yX7_hasRoom := Or.inr ⟨"WindowHill", lw3 (List.mem_of_getElem? (i := 127) (by decide +kernel))⟩
theorem ml_X11_124 : MLk RX11 124 yX7_copy := Or.inr ⟨"WindowHill", lw3 (List.mem_of_getElem? (i := 158) (by decide +kernel))⟩
theorem ml_X11_128 : MLk RX11 128 yX4_hasRoomFor := Or.inr ⟨"WindowHill", lw3 (List.mem_of_getElem? (i := 169) (by decide +kernel))⟩
theorem ml_X11_131 : MLk RX11 131 yX4_append := Or.inr ⟨"WindowHill", lw3 (List.mem_of_getElem? (i := 173) (by decide +kernel))⟩
theorem fl_X11_135 : FLk RX11 135 4 7 := ⟨(RX4, TX4, 14), rfl, by decide, cok_X4, Or.inr ⟨"WindowHill", lw1 (List.mem_of_getElem? (i := 112) (by decide +kernel))⟩⟩
theorem ml_X11_138 : MLk RX11 138 yX4_begin := Or.inr ⟨"WindowHill", lw3 (List.mem_of_getElem? (i := 181) (by decide +kernel))⟩
theorem ml_X11_141 : MLk RX11 141 yX6_takeTown := Or.inr ⟨"WindowHill", lw3 (List.mem_of_getElem? (i := 209) (by decide +kernel))⟩
theorem fl_X11_147 : FLk RX11 147 5 0 := ⟨(RX5, TX5, 16), rfl, by decide, cok_X5, Or.inr ⟨"WindowHill", lw2 (List.mem_of_getElem? (i := 38) (by decide +kernel))⟩⟩
theorem fl_X11_151 : FLk RX11 151 1 4 := ⟨(RX1, TX1, 10), rfl, by decide, cok_X1, Or.inr ⟨"WindowHill", lw1 (List.mem_of_getElem? (i := 188) (by decide +kernel))⟩⟩
theorem ml_X11_156 : MLk RX11 156 yJ6_bitCount_0f7a4 := Or.inl (lw4 (List.mem_of_getElem? (i := 68) (by decide +kernel)))
theorem ml_X11_161 : MLk RX11 161 yX11_answer := Or.inl (lw4 (List.mem_of_getElem? (i := 74) (by decide +kernel)))
theorem fl_X11_166 : FLk RX11 166 5 1 := ⟨(RX5, TX5, 16), rfl, by decide, cok_X5, Or.inr ⟨"WindowHill", lw2 (List.mem_of_getElem? (i := 41) (by decide +kernel))⟩⟩
theorem ml_X11_170 : MLk RX11 170 yX9_makeEmpty := Or.inr ⟨"WindowHill", lw4 (List.mem_of_getElem? (i := 82) (by decide +kernel))⟩
theorem ml_X11_173 : MLk RX11 173 yX10_takeYear := Or.inr ⟨"WindowHill", lw4 (List.mem_of_getElem? (i := 87) (by decide +kernel))⟩
theorem ml_X11_179 : MLk RX11 179 yX9_copyFrom := Or.inr ⟨"WindowHill", lw4 (List.mem_of_getElem? (i := 146) (by decide +kernel))⟩
theorem fl_X11_183 : FLk RX11 183 8 7 := ⟨(RX9, TX9, 8), rfl, by decide, cok_X9, Or.inr ⟨"WindowHill", lw2 (List.mem_of_getElem? (i := 13) (by decide +kernel))⟩⟩
theorem fl_X11_186 : FLk RX11 186 4 12 := ⟨(RX4, TX4, 14), rfl, by decide, cok_X4, Or.inr ⟨"WindowHill", lw1 (List.mem_of_getElem? (i := 120) (by decide +kernel))⟩⟩
theorem fl_X11_189 : FLk RX11 189 4 13 := ⟨(RX4, TX4, 14), rfl, by decide, cok_X4, Or.inr ⟨"WindowHill", lw1 (List.mem_of_getElem? (i := 122) (by decide +kernel))⟩⟩
theorem fl_X11_192 : FLk RX11 192 1 0 := ⟨(RX1, TX1, 10), rfl, by decide, cok_X1, Or.inr ⟨"WindowHill", lw1 (List.mem_of_getElem? (i := 173) (by decide +kernel))⟩⟩
theorem fl_X11_195 : FLk RX11 195 1 1 := ⟨(RX1, TX1, 10), rfl, by decide, cok_X1, Or.inr ⟨"WindowHill", lw1 (List.mem_of_getElem? (i := 180) (by decide +kernel))⟩⟩
theorem fl_X11_198 : FLk RX11 198 5 13 := ⟨(RX5, TX5, 16), rfl, by decide, cok_X5, Or.inr ⟨"WindowHill", lw2 (List.mem_of_getElem? (i := 75) (by decide +kernel))⟩⟩
theorem fl_X11_201 : FLk RX11 201 1 5 := ⟨(RX1, TX1, 10), rfl, by decide, cok_X1, Or.inr ⟨"WindowHill", lw1 (List.mem_of_getElem? (i := 194) (by decide +kernel))⟩⟩
theorem fl_X11_204 : FLk RX11 204 5 10 := ⟨(RX5, TX5, 16), rfl, by decide, cok_X5, Or.inr ⟨"WindowHill", lw2 (List.mem_of_getElem? (i := 63) (by decide +kernel))⟩⟩
theorem fl_X11_207 : FLk RX11 207 5 11 := ⟨(RX5, TX5, 16), rfl, by decide, cok_X5, Or.inr ⟨"WindowHill", lw2 (List.mem_of_getElem? (i := 66) (by decide +kernel))⟩⟩
theorem fl_X11_210 : FLk RX11 210 5 14 := ⟨(RX5, TX5, 16), rfl, by decide, cok_X5, Or.inr ⟨"WindowHill", lw2 (List.mem_of_getElem? (i := 77) (by decide +kernel))⟩⟩
theorem fl_X11_213 : FLk RX11 213 5 15 := ⟨(RX5, TX5, 16), rfl, by decide, cok_X5, Or.inr ⟨"WindowHill", lw2 (List.mem_of_getElem? (i := 79) (by decide +kernel))⟩⟩
theorem fl_X11_216 : FLk RX11 216 1 2 := ⟨(RX1, TX1, 10), rfl, by decide, cok_X1, Or.inr ⟨"WindowHill", lw1 (List.mem_of_getElem? (i := 183) (by decide +kernel))⟩⟩
theorem fl_X11_220 : FLk RX11 220 5 12 := ⟨(RX5, TX5, 16), rfl, by decide, cok_X5, Or.inr ⟨"WindowHill", lw2 (List.mem_of_getElem? (i := 69) (by decide +kernel))⟩⟩
theorem ml_X11_223 : MLk RX11 223 yX1_placeOf := Or.inr ⟨"WindowHill", lw4 (List.mem_of_getElem? (i := 167) (by decide +kernel))⟩
theorem ml_X11_226 : MLk RX11 226 yX1_countAround := Or.inr ⟨"WindowHill", lw4 (List.mem_of_getElem? (i := 171) (by decide +kernel))⟩
theorem ml_X11_229 : MLk RX11 229 yX5_hasRule := Or.inr ⟨"WindowHill", lw4 (List.mem_of_getElem? (i := 183) (by decide +kernel))⟩
theorem fl_X11_232 : FLk RX11 232 5 3 := ⟨(RX5, TX5, 16), rfl, by decide, cok_X5, Or.inr ⟨"WindowHill", lw2 (List.mem_of_getElem? (i := 46) (by decide +kernel))⟩⟩
theorem fl_X11_236 : FLk RX11 236 5 4 := ⟨(RX5, TX5, 16), rfl, by decide, cok_X5, Or.inr ⟨"WindowHill", lw2 (List.mem_of_getElem? (i := 49) (by decide +kernel))⟩⟩
theorem ml_X11_239 : MLk RX11 239 yX5_hasCitizen := Or.inr ⟨"WindowHill", lw4 (List.mem_of_getElem? (i := 191) (by decide +kernel))⟩
theorem fl_X11_242 : FLk RX11 242 5 6 := ⟨(RX5, TX5, 16), rfl, by decide, cok_X5, Or.inr ⟨"WindowHill", lw2 (List.mem_of_getElem? (i := 54) (by decide +kernel))⟩⟩
theorem fl_X11_245 : FLk RX11 245 5 7 := ⟨(RX5, TX5, 16), rfl, by decide, cok_X5, Or.inr ⟨"WindowHill", lw2 (List.mem_of_getElem? (i := 57) (by decide +kernel))⟩⟩
theorem ml_X11_248 : MLk RX11 248 yX11_whyNotFree := Or.inl (lw4 (List.mem_of_getElem? (i := 199) (by decide +kernel)))
theorem ml_X11_251 : MLk RX11 251 yX11_isPicture := Or.inl (lw4 (List.mem_of_getElem? (i := 207) (by decide +kernel)))
theorem ml_X11_255 : MLk RX11 255 yX5_repaint := Or.inr ⟨"WindowHill", lw4 (List.mem_of_getElem? (i := 211) (by decide +kernel))⟩
theorem kc_X11_258 : Cond.constantLong RX11 258 (31) ∈ lw_tbl := lw4 (List.mem_of_getElem? (i := 220) (by decide +kernel))
theorem ml_X11_260 : MLk RX11 260 yX1_rowMask := Or.inr ⟨"WindowHill", lw4 (List.mem_of_getElem? (i := 221) (by decide +kernel))⟩
theorem ml_X11_264 : MLk RX11 264 yX1_rowOf := Or.inr ⟨"WindowHill", lw4 (List.mem_of_getElem? (i := 229) (by decide +kernel))⟩
theorem ml_X11_267 : MLk RX11 267 yX5_passNights := Or.inr ⟨"WindowHill", lw5 (List.mem_of_getElem? (i := 6) (by decide +kernel))⟩
theorem ml_X11_270 : MLk RX11 270 yX5_after := Or.inr ⟨"WindowHill", lw5 (List.mem_of_getElem? (i := 30) (by decide +kernel))⟩
theorem ml_X11_273 : MLk RX11 273 yX3_findRound := Or.inr ⟨"WindowHill", lw5 (List.mem_of_getElem? (i := 38) (by decide +kernel))⟩
theorem fl_X11_277 : FLk RX11 277 3 0 := ⟨(RX3, TX3, 8), rfl, by decide, cok_X3, Or.inr ⟨"WindowHill", lw2 (List.mem_of_getElem? (i := 156) (by decide +kernel))⟩⟩
theorem fl_X11_280 : FLk RX11 280 3 1 := ⟨(RX3, TX3, 8), rfl, by decide, cok_X3, Or.inr ⟨"WindowHill", lw2 (List.mem_of_getElem? (i := 158) (by decide +kernel))⟩⟩
theorem kc_X11_283 : Cond.constant RX11 283 (999999999) ∈ lw_tbl := lw5 (List.mem_of_getElem? (i := 55) (by decide +kernel))
theorem ml_X11_284 : MLk RX11 284 yX3_farAhead := Or.inr ⟨"WindowHill", lw5 (List.mem_of_getElem? (i := 56) (by decide +kernel))⟩
theorem ml_X11_288 : MLk RX11 288 yX3_findWalk := Or.inr ⟨"WindowHill", lw5 (List.mem_of_getElem? (i := 64) (by decide +kernel))⟩
theorem fl_X11_291 : FLk RX11 291 3 2 := ⟨(RX3, TX3, 8), rfl, by decide, cok_X3, Or.inr ⟨"WindowHill", lw2 (List.mem_of_getElem? (i := 160) (by decide +kernel))⟩⟩
theorem fl_X11_294 : FLk RX11 294 3 3 := ⟨(RX3, TX3, 8), rfl, by decide, cok_X3, Or.inr ⟨"WindowHill", lw2 (List.mem_of_getElem? (i := 162) (by decide +kernel))⟩⟩
theorem fl_X11_297 : FLk RX11 297 3 4 := ⟨(RX3, TX3, 8), rfl, by decide, cok_X3, Or.inr ⟨"WindowHill", lw2 (List.mem_of_getElem? (i := 164) (by decide +kernel))⟩⟩
theorem ml_X11_300 : MLk RX11 300 yX5_isStill := Or.inr ⟨"WindowHill", lw5 (List.mem_of_getElem? (i := 77) (by decide +kernel))⟩
theorem ml_X11_303 : MLk RX11 303 yX5_nextOf := Or.inr ⟨"WindowHill", lw5 (List.mem_of_getElem? (i := 85) (by decide +kernel))⟩
theorem lk_X11_306 : Cond.methodLink RX11 306 Lib.Math.max.name ∈ lw_tbl := lw5 (List.mem_of_getElem? (i := 94) (by decide +kernel))
theorem ml_X11_311 : MLk RX11 311 yX0_countWays := Or.inr ⟨"WindowHill", lw5 (List.mem_of_getElem? (i := 101) (by decide +kernel))⟩
theorem ml_X11_315 : MLk RX11 315 yX0_leastFound := Or.inr ⟨"WindowHill", lw5 (List.mem_of_getElem? (i := 134) (by decide +kernel))⟩
theorem ml_X11_318 : MLk RX11 318 yX11_isTurnedNights := Or.inl (lw5 (List.mem_of_getElem? (i := 158) (by decide +kernel)))
theorem ml_X11_321 : MLk RX11 321 yX8_findSignal := Or.inr ⟨"WindowHill", lw5 (List.mem_of_getElem? (i := 161) (by decide +kernel))⟩
theorem fl_X11_325 : FLk RX11 325 7 2 := ⟨(RX8, TX8, 6), rfl, by decide, cok_X8, Or.inr ⟨"WindowHill", lw2 (List.mem_of_getElem? (i := 194) (by decide +kernel))⟩⟩
theorem ml_X11_328 : MLk RX11 328 yX8_countSpoilt := Or.inr ⟨"WindowHill", lw5 (List.mem_of_getElem? (i := 197) (by decide +kernel))⟩
theorem ml_X11_332 : MLk RX11 332 yX8_findWorst := Or.inr ⟨"WindowHill", lw5 (List.mem_of_getElem? (i := 205) (by decide +kernel))⟩
theorem fl_X11_336 : FLk RX11 336 7 3 := ⟨(RX8, TX8, 6), rfl, by decide, cok_X8, Or.inr ⟨"WindowHill", lw2 (List.mem_of_getElem? (i := 196) (by decide +kernel))⟩⟩
theorem fl_X11_339 : FLk RX11 339 7 4 := ⟨(RX8, TX8, 6), rfl, by decide, cok_X8, Or.inr ⟨"WindowHill", lw2 (List.mem_of_getElem? (i := 198) (by decide +kernel))⟩⟩
theorem ml_X11_342 : MLk RX11 342 yX8_findMend := Or.inr ⟨"WindowHill", lw5 (List.mem_of_getElem? (i := 214) (by decide +kernel))⟩
theorem fl_X11_345 : FLk RX11 345 7 5 := ⟨(RX8, TX8, 6), rfl, by decide, cok_X8, Or.inr ⟨"WindowHill", lw2 (List.mem_of_getElem? (i := 200) (by decide +kernel))⟩⟩
theorem ml_X11_348 : MLk RX11 348 yX1_countUnlike := Or.inr ⟨"WindowHill", lw5 (List.mem_of_getElem? (i := 232) (by decide +kernel))⟩
theorem fl_X11_351 : FLk RX11 351 5 8 := ⟨(RX5, TX5, 16), rfl, by decide, cok_X5, Or.inr ⟨"WindowHill", lw2 (List.mem_of_getElem? (i := 59) (by decide +kernel))⟩⟩
theorem ml_X11_354 : MLk RX11 354 yX5_countRulesLeft := Or.inr ⟨"WindowHill", lw6 (List.mem_of_getElem? (i := 1) (by decide +kernel))⟩
theorem ml_X11_357 : MLk RX11 357 yX5_ruleFits := Or.inr ⟨"WindowHill", lw6 (List.mem_of_getElem? (i := 9) (by decide +kernel))⟩
theorem ml_X11_360 : MLk RX11 360 yX5_forgetSeen := Or.inr ⟨"WindowHill", lw6 (List.mem_of_getElem? (i := 17) (by decide +kernel))⟩
theorem ml_X11_363 : MLk RX11 363 yX5_countNewToSee := Or.inr ⟨"WindowHill", lw6 (List.mem_of_getElem? (i := 25) (by decide +kernel))⟩
theorem ml_X11_366 : MLk RX11 366 yX5_lookAtRules := Or.inr ⟨"WindowHill", lw6 (List.mem_of_getElem? (i := 34) (by decide +kernel))⟩
theorem ml_X11_369 : MLk RX11 369 yX5_choiceOf := Or.inr ⟨"WindowHill", lw6 (List.mem_of_getElem? (i := 38) (by decide +kernel))⟩
theorem ml_X11_372 : MLk RX11 372 yX5_countVotes := Or.inr ⟨"WindowHill", lw6 (List.mem_of_getElem? (i := 47) (by decide +kernel))⟩
theorem ml_X11_375 : MLk RX11 375 yX5_holdElection := Or.inr ⟨"WindowHill", lw6 (List.mem_of_getElem? (i := 56) (by decide +kernel))⟩
theorem ml_X11_378 : MLk RX11 378 yX1_columnOf := Or.inr ⟨"WindowHill", lw6 (List.mem_of_getElem? (i := 66) (by decide +kernel))⟩
theorem ml_X11_381 : MLk RX11 381 yX1_isMirror := Or.inr ⟨"WindowHill", lw6 (List.mem_of_getElem? (i := 74) (by decide +kernel))⟩
theorem ml_X11_384 : MLk RX11 384 yX1_heapOf := Or.inr ⟨"WindowHill", lw6 (List.mem_of_getElem? (i := 83) (by decide +kernel))⟩
theorem ml_X11_387 : MLk RX11 387 yX1_countLit := Or.inr ⟨"WindowHill", lw6 (List.mem_of_getElem? (i := 96) (by decide +kernel))⟩
theorem fl_X11_390 : FLk RX11 390 1 9 := ⟨(RX1, TX1, 10), rfl, by decide, cok_X1, Or.inr ⟨"WindowHill", lw1 (List.mem_of_getElem? (i := 203) (by decide +kernel))⟩⟩
theorem ml_X11_393 : MLk RX11 393 yX11_tellFraction := Or.inl (lw6 (List.mem_of_getElem? (i := 97) (by decide +kernel)))
theorem fl_X11_397 : FLk RX11 397 8 5 := ⟨(RX9, TX9, 8), rfl, by decide, cok_X9, Or.inr ⟨"WindowHill", lw2 (List.mem_of_getElem? (i := 7) (by decide +kernel))⟩⟩
theorem ml_X11_400 : MLk RX11 400 yX2_liveBy := Or.inr ⟨"WindowHill", lw6 (List.mem_of_getElem? (i := 108) (by decide +kernel))⟩
theorem fl_X11_403 : FLk RX11 403 9 14 := ⟨(RX11, TX11, 15), rfl, by decide, cok_X11, Or.inl (lw3 (List.mem_of_getElem? (i := 52) (by decide +kernel)))⟩
theorem fl_X11_406 : FLk RX11 406 2 2 := ⟨(RX2, TX2, 8), rfl, by decide, cok_X2, Or.inr ⟨"WindowHill", lw2 (List.mem_of_getElem? (i := 223) (by decide +kernel))⟩⟩
theorem fl_X11_407 : FLk RX11 407 2 3 := ⟨(RX2, TX2, 8), rfl, by decide, cok_X2, Or.inr ⟨"WindowHill", lw2 (List.mem_of_getElem? (i := 225) (by decide +kernel))⟩⟩
theorem fl_X11_410 : FLk RX11 410 2 4 := ⟨(RX2, TX2, 8), rfl, by decide, cok_X2, Or.inr ⟨"WindowHill", lw2 (List.mem_of_getElem? (i := 227) (by decide +kernel))⟩⟩
theorem fl_X11_411 : FLk RX11 411 2 5 := ⟨(RX2, TX2, 8), rfl, by decide, cok_X2, Or.inr ⟨"WindowHill", lw2 (List.mem_of_getElem? (i := 229) (by decide +kernel))⟩⟩
theorem fl_X11_414 : FLk RX11 414 2 6 := ⟨(RX2, TX2, 8), rfl, by decide, cok_X2, Or.inr ⟨"WindowHill", lw2 (List.mem_of_getElem? (i := 231) (by decide +kernel))⟩⟩
theorem fl_X11_417 : FLk RX11 417 2 7 := ⟨(RX2, TX2, 8), rfl, by decide, cok_X2, Or.inr ⟨"WindowHill", lw2 (List.mem_of_getElem? (i := 233) (by decide +kernel))⟩⟩
theorem ml_X11_420 : MLk RX11 420 yX5_copyFrom := Or.inr ⟨"WindowHill", lw6 (List.mem_of_getElem? (i := 155) (by decide +kernel))⟩
theorem fl_X11_423 : FLk RX11 423 9 10 := ⟨(RX11, TX11, 15), rfl, by decide, cok_X11, Or.inl (lw3 (List.mem_of_getElem? (i := 48) (by decide +kernel)))⟩
theorem kc_X11_426 : Cond.constantLong RX11 426 (1073741823) ∈ lw_tbl := lw4 (List.mem_of_getElem? (i := 210) (by decide +kernel))
theorem ml_X11_428 : MLk RX11 428 yX11_commonDivisor := Or.inl (lw6 (List.mem_of_getElem? (i := 101) (by decide +kernel)))
theorem lk_X12_1 : Cond.methodLink RX12 1 Lib.objectInit ∈ lw_tbl := lw6 (List.mem_of_getElem? (i := 178) (by decide +kernel))
theorem fl_X12_7 : FLk RX12 7 10 0 := ⟨(RX12, TX12, 39), rfl, by decide, cok_X12, Or.inl (lw6 (List.mem_of_getElem? (i := 183) (by decide +kernel)))⟩
theorem fo_X12_7 : Cond.fieldLink RX12 7 RX12 (TX12 0).2.1 (TX12 0).2.2.1 ∈ lw_tbl := lw6 (List.mem_of_getElem? (i := 183) (by decide +kernel))
theorem fl_X12_13 : FLk RX12 13 10 1 := ⟨(RX12, TX12, 39), rfl, by decide, cok_X12, Or.inl (lw6 (List.mem_of_getElem? (i := 184) (by decide +kernel)))⟩
theorem fo_X12_13 : Cond.fieldLink RX12 13 RX12 (TX12 1).2.1 (TX12 1).2.2.1 ∈ lw_tbl := lw6 (List.mem_of_getElem? (i := 184) (by decide +kernel))
theorem fl_X12_17 : FLk RX12 17 10 4 := ⟨(RX12, TX12, 39), rfl, by decide, cok_X12, Or.inl (lw6 (List.mem_of_getElem? (i := 187) (by decide +kernel)))⟩
theorem fl_X12_21 : FLk RX12 21 10 5 := ⟨(RX12, TX12, 39), rfl, by decide, cok_X12, Or.inl (lw6 (List.mem_of_getElem? (i := 188) (by decide +kernel)))⟩
theorem fo_X12_21 : Cond.fieldLink RX12 21 RX12 (TX12 5).2.1 (TX12 5).2.2.1 ∈ lw_tbl := lw6 (List.mem_of_getElem? (i := 188) (by decide +kernel))
theorem fl_X12_24 : FLk RX12 24 10 6 := ⟨(RX12, TX12, 39), rfl, by decide, cok_X12, Or.inl (lw6 (List.mem_of_getElem? (i := 189) (by decide +kernel)))⟩
theorem fo_X12_24 : Cond.fieldLink RX12 24 RX12 (TX12 6).2.1 (TX12 6).2.2.1 ∈ lw_tbl := lw6 (List.mem_of_getElem? (i := 189) (by decide +kernel))
theorem fl_X12_27 : FLk RX12 27 10 7 := ⟨(RX12, TX12, 39), rfl, by decide, cok_X12, Or.inl (lw6 (List.mem_of_getElem? (i := 190) (by decide +kernel)))⟩
theorem fo_X12_27 : Cond.fieldLink RX12 27 RX12 (TX12 7).2.1 (TX12 7).2.2.1 ∈ lw_tbl := lw6 (List.mem_of_getElem? (i := 190) (by decide +kernel))
theorem fl_X12_30 : FLk RX12 30 10 8 := ⟨(RX12, TX12, 39), rfl, by decide, cok_X12, Or.inl (lw6 (List.mem_of_getElem? (i := 191) (by decide +kernel)))⟩
theorem fo_X12_30 : Cond.fieldLink RX12 30 RX12 (TX12 8).2.1 (TX12 8).2.2.1 ∈ lw_tbl := lw6 (List.mem_of_getElem? (i := 191) (by decide +kernel))
theorem fl_X12_34 : FLk RX12 34 10 9 := ⟨(RX12, TX12, 39), rfl, by decide, cok_X12, Or.inl (lw6 (List.mem_of_getElem? (i := 192) (by decide +kernel)))⟩
theorem fo_X12_34 : Cond.fieldLink RX12 34 RX12 (TX12 9).2.1 (TX12 9).2.2.1 ∈ lw_tbl := lw6 (List.mem_of_getElem? (i := 192) (by decide +kernel))
theorem fl_X12_37 : FLk RX12 37 10 16 := ⟨(RX12, TX12, 39), rfl, by decide, cok_X12, Or.inl (lw6 (List.mem_of_getElem? (i := 199) (by decide +kernel)))⟩
theorem fl_X12_41 : FLk RX12 41 10 17 := ⟨(RX12, TX12, 39), rfl, by decide, cok_X12, Or.inl (lw6 (List.mem_of_getElem? (i := 200) (by decide +kernel)))⟩
theorem fl_X12_44 : FLk RX12 44 10 20 := ⟨(RX12, TX12, 39), rfl, by decide, cok_X12, Or.inl (lw6 (List.mem_of_getElem? (i := 203) (by decide +kernel)))⟩
theorem fo_X12_44 : Cond.fieldLink RX12 44 RX12 (TX12 20).2.1 (TX12 20).2.2.1 ∈ lw_tbl := lw6 (List.mem_of_getElem? (i := 203) (by decide +kernel))
theorem fl_X12_47 : FLk RX12 47 10 23 := ⟨(RX12, TX12, 39), rfl, by decide, cok_X12, Or.inl (lw6 (List.mem_of_getElem? (i := 206) (by decide +kernel)))⟩
theorem fo_X12_47 : Cond.fieldLink RX12 47 RX12 (TX12 23).2.1 (TX12 23).2.2.1 ∈ lw_tbl := lw6 (List.mem_of_getElem? (i := 206) (by decide +kernel))
theorem fl_X12_50 : FLk RX12 50 10 24 := ⟨(RX12, TX12, 39), rfl, by decide, cok_X12, Or.inl (lw6 (List.mem_of_getElem? (i := 207) (by decide +kernel)))⟩
theorem fo_X12_50 : Cond.fieldLink RX12 50 RX12 (TX12 24).2.1 (TX12 24).2.2.1 ∈ lw_tbl := lw6 (List.mem_of_getElem? (i := 207) (by decide +kernel))
theorem fl_X12_53 : FLk RX12 53 10 27 := ⟨(RX12, TX12, 39), rfl, by decide, cok_X12, Or.inl (lw6 (List.mem_of_getElem? (i := 210) (by decide +kernel)))⟩
theorem fo_X12_53 : Cond.fieldLink RX12 53 RX12 (TX12 27).2.1 (TX12 27).2.2.1 ∈ lw_tbl := lw6 (List.mem_of_getElem? (i := 210) (by decide +kernel))
theorem fl_X12_56 : FLk RX12 56 10 28 := ⟨(RX12, TX12, 39), rfl, by decide, cok_X12, Or.inl (lw6 (List.mem_of_getElem? (i := 211) (by decide +kernel)))⟩
theorem fo_X12_56 : Cond.fieldLink RX12 56 RX12 (TX12 28).2.1 (TX12 28).2.2.1 ∈ lw_tbl := lw6 (List.mem_of_getElem? (i := 211) (by decide +kernel))
theorem fl_X12_59 : FLk RX12 59 10 29 := ⟨(RX12, TX12, 39), rfl, by decide, cok_X12, Or.inl (lw6 (List.mem_of_getElem? (i := 212) (by decide +kernel)))⟩
theorem fo_X12_59 : Cond.fieldLink RX12 59 RX12 (TX12 29).2.1 (TX12 29).2.2.1 ∈ lw_tbl := lw6 (List.mem_of_getElem? (i := 212) (by decide +kernel))
theorem fl_X12_62 : FLk RX12 62 10 34 := ⟨(RX12, TX12, 39), rfl, by decide, cok_X12, Or.inl (lw6 (List.mem_of_getElem? (i := 217) (by decide +kernel)))⟩
theorem fo_X12_62 : Cond.fieldLink RX12 62 RX12 (TX12 34).2.1 (TX12 34).2.2.1 ∈ lw_tbl := lw6 (List.mem_of_getElem? (i := 217) (by decide +kernel))
theorem fl_X12_65 : FLk RX12 65 10 35 := ⟨(RX12, TX12, 39), rfl, by decide, cok_X12, Or.inl (lw6 (List.mem_of_getElem? (i := 218) (by decide +kernel)))⟩
theorem fo_X12_65 : Cond.fieldLink RX12 65 RX12 (TX12 35).2.1 (TX12 35).2.2.1 ∈ lw_tbl := lw6 (List.mem_of_getElem? (i := 218) (by decide +kernel))
theorem fl_X12_68 : FLk RX12 68 10 36 := ⟨(RX12, TX12, 39), rfl, by decide, cok_X12, Or.inl (lw6 (List.mem_of_getElem? (i := 219) (by decide +kernel)))⟩
theorem fo_X12_68 : Cond.fieldLink RX12 68 RX12 (TX12 36).2.1 (TX12 36).2.2.1 ∈ lw_tbl := lw6 (List.mem_of_getElem? (i := 219) (by decide +kernel))
theorem ml_X12_71 : MLk RX12 71 yX12_plain := Or.inl (lw6 (List.mem_of_getElem? (i := 179) (by decide +kernel)))
theorem fl_X12_75 : FLk RX12 75 10 2 := ⟨(RX12, TX12, 39), rfl, by decide, cok_X12, Or.inl (lw6 (List.mem_of_getElem? (i := 185) (by decide +kernel)))⟩
theorem fl_X12_78 : FLk RX12 78 10 3 := ⟨(RX12, TX12, 39), rfl, by decide, cok_X12, Or.inl (lw6 (List.mem_of_getElem? (i := 186) (by decide +kernel)))⟩
theorem ml_X12_81 : MLk RX12 81 yX12_refuse := Or.inl (lw7 (List.mem_of_getElem? (i := 140) (by decide +kernel)))
theorem ml_X12_85 : MLk RX12 85 yX12_gives := Or.inl (lw7 (List.mem_of_getElem? (i := 225) (by decide +kernel)))
theorem ml_X12_88 : MLk RX12 88 yX12_is := Or.inl (lw7 (List.mem_of_getElem? (i := 80) (by decide +kernel)))
theorem ml_X12_92 : MLk RX12 92 yX12_isTray := Or.inl (lw7 (List.mem_of_getElem? (i := 77) (by decide +kernel)))
theorem ml_X12_95 : MLk RX12 95 yX12_wrongPlace := Or.inl (lw7 (List.mem_of_getElem? (i := 88) (by decide +kernel)))
theorem ml_X12_99 : MLk RX12 99 yX12_cut := Or.inl (lw7 (List.mem_of_getElem? (i := 92) (by decide +kernel)))
theorem kc_X12_103 : Cond.constantLong RX12 103 (-1) ∈ lw_tbl := lw7 (List.mem_of_getElem? (i := 99) (by decide +kernel))
theorem fl_X12_105 : FLk RX12 105 10 10 := ⟨(RX12, TX12, 39), rfl, by decide, cok_X12, Or.inl (lw6 (List.mem_of_getElem? (i := 193) (by decide +kernel)))⟩
theorem ml_X12_108 : MLk RX12 108 yX12_four := Or.inl (lw7 (List.mem_of_getElem? (i := 108) (by decide +kernel)))
theorem fl_X12_111 : FLk RX12 111 10 11 := ⟨(RX12, TX12, 39), rfl, by decide, cok_X12, Or.inl (lw6 (List.mem_of_getElem? (i := 194) (by decide +kernel)))⟩
theorem fl_X12_114 : FLk RX12 114 10 14 := ⟨(RX12, TX12, 39), rfl, by decide, cok_X12, Or.inl (lw6 (List.mem_of_getElem? (i := 197) (by decide +kernel)))⟩
theorem ml_X12_117 : MLk RX12 117 yX12_byteAt := Or.inl (lw7 (List.mem_of_getElem? (i := 128) (by decide +kernel)))
theorem fl_X12_120 : FLk RX12 120 10 13 := ⟨(RX12, TX12, 39), rfl, by decide, cok_X12, Or.inl (lw6 (List.mem_of_getElem? (i := 196) (by decide +kernel)))⟩
theorem fl_X12_123 : FLk RX12 123 10 15 := ⟨(RX12, TX12, 39), rfl, by decide, cok_X12, Or.inl (lw6 (List.mem_of_getElem? (i := 198) (by decide +kernel)))⟩
theorem fl_X12_126 : FLk RX12 126 10 12 := ⟨(RX12, TX12, 39), rfl, by decide, cok_X12, Or.inl (lw6 (List.mem_of_getElem? (i := 195) (by decide +kernel)))⟩
theorem ml_X12_129 : MLk RX12 129 yX12_isSmall := Or.inl (lw7 (List.mem_of_getElem? (i := 132) (by decide +kernel)))
theorem ml_X12_132 : MLk RX12 132 yX12_isDigit := Or.inl (lw7 (List.mem_of_getElem? (i := 135) (by decide +kernel)))
theorem kc_X12_135 : Cond.constant RX12 135 (100000) ∈ lw_tbl := lw7 (List.mem_of_getElem? (i := 138) (by decide +kernel))
theorem lk_X12_136 : Cond.methodLink RX12 136 Lib.Math.min.name ∈ lw_tbl := lw7 (List.mem_of_getElem? (i := 139) (by decide +kernel))
theorem ml_X12_141 : MLk RX12 141 yJ0_length_8abf5 := Or.inl (lw7 (List.mem_of_getElem? (i := 157) (by decide +kernel)))
theorem ml_X12_147 : MLk RX12 147 yJ0_charAt_5068e := Or.inl (lw7 (List.mem_of_getElem? (i := 158) (by decide +kernel)))
theorem fl_X12_151 : FLk RX12 151 10 18 := ⟨(RX12, TX12, 39), rfl, by decide, cok_X12, Or.inl (lw6 (List.mem_of_getElem? (i := 201) (by decide +kernel)))⟩
theorem fl_X12_154 : FLk RX12 154 10 19 := ⟨(RX12, TX12, 39), rfl, by decide, cok_X12, Or.inl (lw6 (List.mem_of_getElem? (i := 202) (by decide +kernel)))⟩
theorem ml_X12_157 : MLk RX12 157 yX12_onward := Or.inl (lw7 (List.mem_of_getElem? (i := 124) (by decide +kernel)))
theorem ml_X12_160 : MLk RX12 160 yX12_isSign := Or.inl (lw7 (List.mem_of_getElem? (i := 175) (by decide +kernel)))
theorem ml_X12_163 : MLk RX12 163 yX12_fails := Or.inl (lw7 (List.mem_of_getElem? (i := 159) (by decide +kernel)))
theorem ml_X12_166 : MLk RX12 166 yX12_inWords := Or.inl (lw7 (List.mem_of_getElem? (i := 153) (by decide +kernel)))
theorem ml_X12_170 : MLk RX12 170 yX12_nameHere := Or.inl (lw7 (List.mem_of_getElem? (i := 206) (by decide +kernel)))
theorem ml_X12_176 : MLk RX12 176 yX12_isName := Or.inl (lw7 (List.mem_of_getElem? (i := 198) (by decide +kernel)))
theorem ml_X12_180 : MLk RX12 180 yX12_findHere := Or.inl (lw7 (List.mem_of_getElem? (i := 202) (by decide +kernel)))
theorem ml_X12_183 : MLk RX12 183 yX12_wantWord := Or.inl (lw7 (List.mem_of_getElem? (i := 149) (by decide +kernel)))
theorem ml_X12_187 : MLk RX12 187 yX12_number := Or.inl (lw7 (List.mem_of_getElem? (i := 163) (by decide +kernel)))
theorem ml_X12_191 : MLk RX12 191 yX12_isThere := Or.inl (lw7 (List.mem_of_getElem? (i := 167) (by decide +kernel)))
theorem ml_X12_194 : MLk RX12 194 yX12_wantSign := Or.inl (lw7 (List.mem_of_getElem? (i := 171) (by decide +kernel)))
theorem ml_X12_197 : MLk RX12 197 yX12_isLamp := Or.inl (lw7 (List.mem_of_getElem? (i := 183) (by decide +kernel)))
theorem ml_X12_200 : MLk RX12 200 yX12_newOne := Or.inl (lw7 (List.mem_of_getElem? (i := 194) (by decide +kernel)))
theorem ml_X12_203 : MLk RX12 203 yX12_neighbours := Or.inl (lw7 (List.mem_of_getElem? (i := 210) (by decide +kernel)))
theorem ml_X12_206 : MLk RX12 206 yX12_aRule := Or.inl (lw7 (List.mem_of_getElem? (i := 190) (by decide +kernel)))
theorem ml_X12_210 : MLk RX12 210 yX12_aCitizen := Or.inl (lw7 (List.mem_of_getElem? (i := 214) (by decide +kernel)))
theorem ml_X12_213 : MLk RX12 213 yX12_begins := Or.inl (lw7 (List.mem_of_getElem? (i := 120) (by decide +kernel)))
theorem ml_X12_217 : MLk RX12 217 yX12_first := Or.inl (lw7 (List.mem_of_getElem? (i := 144) (by decide +kernel)))
theorem ml_X12_220 : MLk RX12 220 yX12_aRow := Or.inl (lw7 (List.mem_of_getElem? (i := 179) (by decide +kernel)))
theorem ml_X12_223 : MLk RX12 223 yX12_townPart := Or.inl (lw7 (List.mem_of_getElem? (i := 186) (by decide +kernel)))
theorem ml_X12_226 : MLk RX12 226 yX12_bits := Or.inl (lw7 (List.mem_of_getElem? (i := 218) (by decide +kernel)))
theorem ml_X12_229 : MLk RX12 229 yX12_taken := Or.inl (lw7 (List.mem_of_getElem? (i := 221) (by decide +kernel)))
theorem ml_X12_232 : MLk RX12 232 yX12_placeTo := Or.inl (lw8 (List.mem_of_getElem? (i := 1) (by decide +kernel)))
theorem ml_X12_235 : MLk RX12 235 yX12_oldRule := Or.inl (lw8 (List.mem_of_getElem? (i := 5) (by decide +kernel)))
theorem ml_X12_238 : MLk RX12 238 yX12_test := Or.inl (lw8 (List.mem_of_getElem? (i := 9) (by decide +kernel)))
theorem fl_X12_241 : FLk RX12 241 10 21 := ⟨(RX12, TX12, 39), rfl, by decide, cok_X12, Or.inl (lw6 (List.mem_of_getElem? (i := 204) (by decide +kernel)))⟩
theorem fl_X12_244 : FLk RX12 244 10 22 := ⟨(RX12, TX12, 39), rfl, by decide, cok_X12, Or.inl (lw6 (List.mem_of_getElem? (i := 205) (by decide +kernel)))⟩
theorem ml_X12_247 : MLk RX12 247 yX12_yearOrder := Or.inl (lw7 (List.mem_of_getElem? (i := 237) (by decide +kernel)))
theorem ml_X12_250 : MLk RX12 250 yX12_yearStep := Or.inl (lw7 (List.mem_of_getElem? (i := 233) (by decide +kernel)))
theorem ml_X12_253 : MLk RX12 253 yX12_isPlace := Or.inl (lw8 (List.mem_of_getElem? (i := 37) (by decide +kernel)))
theorem ml_X12_256 : MLk RX12 256 yX12_bitOf := Or.inl (lw8 (List.mem_of_getElem? (i := 41) (by decide +kernel)))
theorem ml_X12_259 : MLk RX12 259 yX12_wrongHouse := Or.inl (lw8 (List.mem_of_getElem? (i := 33) (by decide +kernel)))
theorem ml_X12_262 : MLk RX12 262 yX12_places := Or.inl (lw8 (List.mem_of_getElem? (i := 49) (by decide +kernel)))
theorem ml_X12_265 : MLk RX12 265 yX12_near := Or.inl (lw8 (List.mem_of_getElem? (i := 45) (by decide +kernel)))
theorem ml_X12_268 : MLk RX12 268 yX12_free := Or.inl (lw8 (List.mem_of_getElem? (i := 89) (by decide +kernel)))
theorem ml_X12_271 : MLk RX12 271 yX12_laysNear := Or.inl (lw8 (List.mem_of_getElem? (i := 123) (by decide +kernel)))
theorem ml_X12_274 : MLk RX12 274 yX12_becomes := Or.inl (lw8 (List.mem_of_getElem? (i := 127) (by decide +kernel)))
theorem ml_X12_277 : MLk RX12 277 yX12_orNone := Or.inl (lw8 (List.mem_of_getElem? (i := 17) (by decide +kernel)))
theorem ml_X12_280 : MLk RX12 280 yX12_givesLong := Or.inl (lw8 (List.mem_of_getElem? (i := 25) (by decide +kernel)))
theorem ml_X12_284 : MLk RX12 284 yX12_isRule := Or.inl (lw8 (List.mem_of_getElem? (i := 57) (by decide +kernel)))
theorem ml_X12_287 : MLk RX12 287 yX12_isCitizen := Or.inl (lw8 (List.mem_of_getElem? (i := 65) (by decide +kernel)))
theorem ml_X12_290 : MLk RX12 290 yX12_wrongLamp := Or.inl (lw8 (List.mem_of_getElem? (i := 73) (by decide +kernel)))
theorem kc_X12_293 : Cond.constantLong RX12 293 (1073741823) ∈ lw_tbl := lw8 (List.mem_of_getElem? (i := 81) (by decide +kernel))
theorem ml_X12_295 : MLk RX12 295 yX12_isFrom := Or.inl (lw8 (List.mem_of_getElem? (i := 82) (by decide +kernel)))
theorem ml_X12_299 : MLk RX12 299 yX12_paints := Or.inl (lw8 (List.mem_of_getElem? (i := 85) (by decide +kernel)))
theorem kc_X12_302 : Cond.constantLong RX12 302 (31) ∈ lw_tbl := lw8 (List.mem_of_getElem? (i := 97) (by decide +kernel))
theorem ml_X12_304 : MLk RX12 304 yX12_rowOf := Or.inl (lw8 (List.mem_of_getElem? (i := 102) (by decide +kernel)))
theorem kc_X12_307 : Cond.constantLong RX12 307 (999) ∈ lw_tbl := lw8 (List.mem_of_getElem? (i := 118) (by decide +kernel))
theorem ml_X12_309 : MLk RX12 309 yX12_goes := Or.inl (lw8 (List.mem_of_getElem? (i := 119) (by decide +kernel)))
theorem ml_X12_312 : MLk RX12 312 yX12_after := Or.inl (lw8 (List.mem_of_getElem? (i := 135) (by decide +kernel)))
theorem fl_X12_315 : FLk RX12 315 10 25 := ⟨(RX12, TX12, 39), rfl, by decide, cok_X12, Or.inl (lw6 (List.mem_of_getElem? (i := 208) (by decide +kernel)))⟩
theorem fl_X12_318 : FLk RX12 318 10 26 := ⟨(RX12, TX12, 39), rfl, by decide, cok_X12, Or.inl (lw6 (List.mem_of_getElem? (i := 209) (by decide +kernel)))⟩
theorem ml_X12_321 : MLk RX12 321 yX12_comesAgain := Or.inl (lw8 (List.mem_of_getElem? (i := 143) (by decide +kernel)))
theorem kc_X12_324 : Cond.constantLong RX12 324 (999999999) ∈ lw_tbl := lw8 (List.mem_of_getElem? (i := 151) (by decide +kernel))
theorem ml_X12_326 : MLk RX12 326 yX12_moved := Or.inl (lw8 (List.mem_of_getElem? (i := 156) (by decide +kernel)))
theorem ml_X12_330 : MLk RX12 330 yX12_isStill := Or.inl (lw8 (List.mem_of_getElem? (i := 164) (by decide +kernel)))
theorem kc_X12_333 : Cond.constantLong RX12 333 (9999) ∈ lw_tbl := lw8 (List.mem_of_getElem? (i := 176) (by decide +kernel))
theorem lk_X12_335 : Cond.methodLink RX12 335 Lib.Math.max.name ∈ lw_tbl := lw8 (List.mem_of_getElem? (i := 181) (by decide +kernel))
theorem ml_X12_338 : MLk RX12 338 yX12_rowBecomes := Or.inl (lw8 (List.mem_of_getElem? (i := 198) (by decide +kernel)))
theorem ml_X12_342 : MLk RX12 342 yX12_fitsRow := Or.inl (lw8 (List.mem_of_getElem? (i := 190) (by decide +kernel)))
theorem ml_X12_345 : MLk RX12 345 yX12_isGood := Or.inl (lw8 (List.mem_of_getElem? (i := 194) (by decide +kernel)))
theorem ml_X12_349 : MLk RX12 349 yX12_aboveOf := Or.inl (lw8 (List.mem_of_getElem? (i := 210) (by decide +kernel)))
theorem ml_X12_353 : MLk RX12 353 yX12_reckons := Or.inl (lw8 (List.mem_of_getElem? (i := 186) (by decide +kernel)))
theorem ml_X12_357 : MLk RX12 357 yX12_least := Or.inl (lw8 (List.mem_of_getElem? (i := 206) (by decide +kernel)))
theorem fl_X12_360 : FLk RX12 360 10 30 := ⟨(RX12, TX12, 39), rfl, by decide, cok_X12, Or.inl (lw6 (List.mem_of_getElem? (i := 213) (by decide +kernel)))⟩
theorem fl_X12_363 : FLk RX12 363 10 31 := ⟨(RX12, TX12, 39), rfl, by decide, cok_X12, Or.inl (lw6 (List.mem_of_getElem? (i := 214) (by decide +kernel)))⟩
theorem kc_X12_366 : Cond.constantLong RX12 366 (30) ∈ lw_tbl := lw8 (List.mem_of_getElem? (i := 230) (by decide +kernel))
theorem ml_X12_368 : MLk RX12 368 yX12_tries := Or.inl (lw8 (List.mem_of_getElem? (i := 231) (by decide +kernel)))
theorem ml_X12_372 : MLk RX12 372 yX12_spoilsBy := Or.inl (lw8 (List.mem_of_getElem? (i := 239) (by decide +kernel)))
theorem ml_X12_375 : MLk RX12 375 yX12_whole := Or.inl (lw9 (List.mem_of_getElem? (i := 11) (by decide +kernel)))
theorem kc_X12_378 : Cond.constantLong RX12 378 (4) ∈ lw_tbl := lw9 (List.mem_of_getElem? (i := 23) (by decide +kernel))
theorem ml_X12_380 : MLk RX12 380 yX12_dislikes := Or.inl (lw9 (List.mem_of_getElem? (i := 48) (by decide +kernel)))
theorem ml_X12_383 : MLk RX12 383 yX12_voteOf := Or.inl (lw9 (List.mem_of_getElem? (i := 44) (by decide +kernel)))
theorem ml_X12_386 : MLk RX12 386 yX12_votesFor := Or.inl (lw9 (List.mem_of_getElem? (i := 56) (by decide +kernel)))
theorem ml_X12_389 : MLk RX12 389 yX12_elects := Or.inl (lw9 (List.mem_of_getElem? (i := 64) (by decide +kernel)))
theorem ml_X12_392 : MLk RX12 392 yX12_heapOf := Or.inl (lw9 (List.mem_of_getElem? (i := 80) (by decide +kernel)))
theorem ml_X12_395 : MLk RX12 395 yX12_tellsBy := Or.inl (lw9 (List.mem_of_getElem? (i := 92) (by decide +kernel)))
theorem fl_X12_399 : FLk RX12 399 10 32 := ⟨(RX12, TX12, 39), rfl, by decide, cok_X12, Or.inl (lw6 (List.mem_of_getElem? (i := 215) (by decide +kernel)))⟩
theorem kc_X12_402 : Cond.constant RX12 402 (65536) ∈ lw_tbl := lw9 (List.mem_of_getElem? (i := 116) (by decide +kernel))
theorem ml_X12_403 : MLk RX12 403 yX12_draw := Or.inl (lw9 (List.mem_of_getElem? (i := 112) (by decide +kernel)))
theorem ml_X12_406 : MLk RX12 406 yX12_storms := Or.inl (lw9 (List.mem_of_getElem? (i := 108) (by decide +kernel)))
theorem ml_X12_409 : MLk RX12 409 yX12_isBorn := Or.inl (lw9 (List.mem_of_getElem? (i := 117) (by decide +kernel)))
theorem fl_X12_412 : FLk RX12 412 10 33 := ⟨(RX12, TX12, 39), rfl, by decide, cok_X12, Or.inl (lw6 (List.mem_of_getElem? (i := 216) (by decide +kernel)))⟩
theorem ml_X12_415 : MLk RX12 415 yX12_does := Or.inl (lw9 (List.mem_of_getElem? (i := 104) (by decide +kernel)))
theorem ml_X12_418 : MLk RX12 418 yX12_holds := Or.inl (lw9 (List.mem_of_getElem? (i := 121) (by decide +kernel)))
theorem ml_X12_421 : MLk RX12 421 yX12_behindEnds := Or.inl (lw9 (List.mem_of_getElem? (i := 125) (by decide +kernel)))
theorem ml_X12_424 : MLk RX12 424 yX12_lives := Or.inl (lw9 (List.mem_of_getElem? (i := 100) (by decide +kernel)))
theorem fl_X12_427 : FLk RX12 427 10 37 := ⟨(RX12, TX12, 39), rfl, by decide, cok_X12, Or.inl (lw6 (List.mem_of_getElem? (i := 220) (by decide +kernel)))⟩
theorem kc_X12_431 : Cond.constantLong RX12 431 (20) ∈ lw_tbl := lw9 (List.mem_of_getElem? (i := 137) (by decide +kernel))
theorem fl_X12_433 : FLk RX12 433 10 38 := ⟨(RX12, TX12, 39), rfl, by decide, cok_X12, Or.inl (lw6 (List.mem_of_getElem? (i := 221) (by decide +kernel)))⟩
theorem ml_X12_436 : MLk RX12 436 yX12_copies := Or.inl (lw9 (List.mem_of_getElem? (i := 142) (by decide +kernel)))
theorem lk_X0_1 : Cond.methodLink RX0 1 Lib.objectInit ∈ lw_tbl := lw2 (List.mem_of_getElem? (i := 118) (by decide +kernel))
theorem fl_X0_11 : FLk RX0 11 0 0 := ⟨(RX0, TX0, 9), rfl, by decide, cok_X0, Or.inl (lw2 (List.mem_of_getElem? (i := 121) (by decide +kernel)))⟩
theorem fo_X0_11 : Cond.fieldLink RX0 11 RX0 (TX0 0).2.1 (TX0 0).2.2.1 ∈ lw_tbl := lw2 (List.mem_of_getElem? (i := 121) (by decide +kernel))
theorem kl_X0_7 : Cond.classLink RX0 7 "WindowHill$Hill" ∈ lw_tbl := lw2 (List.mem_of_getElem? (i := 119) (by decide +kernel))
theorem ml_X0_15 : MLk RX0 15 yX1_init := Or.inr ⟨"WindowHill", lw2 (List.mem_of_getElem? (i := 120) (by decide +kernel))⟩
theorem fl_X0_16 : FLk RX0 16 0 1 := ⟨(RX0, TX0, 9), rfl, by decide, cok_X0, Or.inl (lw2 (List.mem_of_getElem? (i := 122) (by decide +kernel)))⟩
theorem fo_X0_16 : Cond.fieldLink RX0 16 RX0 (TX0 1).2.1 (TX0 1).2.2.1 ∈ lw_tbl := lw2 (List.mem_of_getElem? (i := 122) (by decide +kernel))
theorem fl_X0_20 : FLk RX0 20 0 2 := ⟨(RX0, TX0, 9), rfl, by decide, cok_X0, Or.inl (lw2 (List.mem_of_getElem? (i := 123) (by decide +kernel)))⟩
theorem fo_X0_20 : Cond.fieldLink RX0 20 RX0 (TX0 2).2.1 (TX0 2).2.2.1 ∈ lw_tbl := lw2 (List.mem_of_getElem? (i := 123) (by decide +kernel))
theorem fl_X0_23 : FLk RX0 23 0 3 := ⟨(RX0, TX0, 9), rfl, by decide, cok_X0, Or.inl (lw2 (List.mem_of_getElem? (i := 124) (by decide +kernel)))⟩
theorem fo_X0_23 : Cond.fieldLink RX0 23 RX0 (TX0 3).2.1 (TX0 3).2.2.1 ∈ lw_tbl := lw2 (List.mem_of_getElem? (i := 124) (by decide +kernel))
theorem fl_X0_26 : FLk RX0 26 0 4 := ⟨(RX0, TX0, 9), rfl, by decide, cok_X0, Or.inl (lw2 (List.mem_of_getElem? (i := 125) (by decide +kernel)))⟩
theorem fo_X0_26 : Cond.fieldLink RX0 26 RX0 (TX0 4).2.1 (TX0 4).2.2.1 ∈ lw_tbl := lw2 (List.mem_of_getElem? (i := 125) (by decide +kernel))
theorem fl_X0_29 : FLk RX0 29 0 8 := ⟨(RX0, TX0, 9), rfl, by decide, cok_X0, Or.inl (lw2 (List.mem_of_getElem? (i := 129) (by decide +kernel)))⟩
theorem ml_X0_33 : MLk RX0 33 yX0_layRows := Or.inl (lw5 (List.mem_of_getElem? (i := 105) (by decide +kernel)))
theorem ml_X0_37 : MLk RX0 37 yX5_bornNow := Or.inr ⟨"WindowHill", lw5 (List.mem_of_getElem? (i := 113) (by decide +kernel))⟩
theorem fl_X0_43 : FLk RX0 43 0 6 := ⟨(RX0, TX0, 9), rfl, by decide, cok_X0, Or.inl (lw2 (List.mem_of_getElem? (i := 127) (by decide +kernel)))⟩
theorem ml_X0_47 : MLk RX0 47 yX5_staysNow := Or.inr ⟨"WindowHill", lw5 (List.mem_of_getElem? (i := 114) (by decide +kernel))⟩
theorem fl_X0_50 : FLk RX0 50 0 7 := ⟨(RX0, TX0, 9), rfl, by decide, cok_X0, Or.inl (lw2 (List.mem_of_getElem? (i := 128) (by decide +kernel)))⟩
theorem ml_X0_53 : MLk RX0 53 yJ7_fill_53178 := Or.inl (lw5 (List.mem_of_getElem? (i := 115) (by decide +kernel)))
theorem fl_X0_59 : FLk RX0 59 0 5 := ⟨(RX0, TX0, 9), rfl, by decide, cok_X0, Or.inl (lw2 (List.mem_of_getElem? (i := 126) (by decide +kernel)))⟩
theorem ml_X0_62 : MLk RX0 62 yX0_chooseBelow := Or.inl (lw5 (List.mem_of_getElem? (i := 116) (by decide +kernel)))
theorem fl_X0_66 : FLk RX0 66 5 0 := ⟨(RX5, TX5, 16), rfl, by decide, cok_X5, Or.inr ⟨"WindowHill", lw2 (List.mem_of_getElem? (i := 32) (by decide +kernel))⟩⟩
theorem fl_X0_69 : FLk RX0 69 1 1 := ⟨(RX1, TX1, 10), rfl, by decide, cok_X1, Or.inr ⟨"WindowHill", lw1 (List.mem_of_getElem? (i := 175) (by decide +kernel))⟩⟩
theorem lk_X0_70 : Cond.methodLink RX0 70 Lib.Math.min.name ∈ lw_tbl := lw5 (List.mem_of_getElem? (i := 109) (by decide +kernel))
theorem fl_X0_76 : FLk RX0 76 1 5 := ⟨(RX1, TX1, 10), rfl, by decide, cok_X1, Or.inr ⟨"WindowHill", lw1 (List.mem_of_getElem? (i := 191) (by decide +kernel))⟩⟩
theorem ml_X0_79 : MLk RX0 79 yX1_rowOf := Or.inr ⟨"WindowHill", lw5 (List.mem_of_getElem? (i := 110) (by decide +kernel))⟩
theorem fl_X0_82 : FLk RX0 82 1 6 := ⟨(RX1, TX1, 10), rfl, by decide, cok_X1, Or.inr ⟨"WindowHill", lw1 (List.mem_of_getElem? (i := 196) (by decide +kernel))⟩⟩
theorem fl_X0_85 : FLk RX0 85 5 13 := ⟨(RX5, TX5, 16), rfl, by decide, cok_X5, Or.inr ⟨"WindowHill", lw2 (List.mem_of_getElem? (i := 72) (by decide +kernel))⟩⟩
theorem fl_X0_88 : FLk RX0 88 1 0 := ⟨(RX1, TX1, 10), rfl, by decide, cok_X1, Or.inr ⟨"WindowHill", lw1 (List.mem_of_getElem? (i := 168) (by decide +kernel))⟩⟩
theorem fl_X0_91 : FLk RX0 91 1 2 := ⟨(RX1, TX1, 10), rfl, by decide, cok_X1, Or.inr ⟨"WindowHill", lw1 (List.mem_of_getElem? (i := 182) (by decide +kernel))⟩⟩
theorem ml_X0_94 : MLk RX0 94 yX1_start := Or.inr ⟨"WindowHill", lw5 (List.mem_of_getElem? (i := 111) (by decide +kernel))⟩
theorem ml_X0_98 : MLk RX0 98 yX1_addRow := Or.inr ⟨"WindowHill", lw5 (List.mem_of_getElem? (i := 112) (by decide +kernel))⟩
theorem fl_X0_101 : FLk RX0 101 1 3 := ⟨(RX1, TX1, 10), rfl, by decide, cok_X1, Or.inr ⟨"WindowHill", lw1 (List.mem_of_getElem? (i := 185) (by decide +kernel))⟩⟩
theorem ml_X0_104 : MLk RX0 104 yX0_chooseBelowPair := Or.inl (lw5 (List.mem_of_getElem? (i := 120) (by decide +kernel)))
theorem ml_X0_108 : MLk RX0 108 yX0_wrongIn := Or.inl (lw5 (List.mem_of_getElem? (i := 124) (by decide +kernel)))
theorem ml_X0_112 : MLk RX0 112 yX1_rowMask := Or.inr ⟨"WindowHill", lw5 (List.mem_of_getElem? (i := 129) (by decide +kernel))⟩
theorem ml_X0_115 : MLk RX0 115 yX1_step := Or.inr ⟨"WindowHill", lw5 (List.mem_of_getElem? (i := 128) (by decide +kernel))⟩
theorem ml_X0_119 : MLk RX0 119 yX0_leastAbove := Or.inl (lw5 (List.mem_of_getElem? (i := 138) (by decide +kernel)))
theorem lk_X1_1 : Cond.methodLink RX1 1 Lib.objectInit ∈ lw_tbl := lw1 (List.mem_of_getElem? (i := 166) (by decide +kernel))
theorem fl_X1_7 : FLk RX1 7 1 0 := ⟨(RX1, TX1, 10), rfl, by decide, cok_X1, Or.inl (lw1 (List.mem_of_getElem? (i := 167) (by decide +kernel)))⟩
theorem fl_X1_13 : FLk RX1 13 1 9 := ⟨(RX1, TX1, 10), rfl, by decide, cok_X1, Or.inl (lw1 (List.mem_of_getElem? (i := 201) (by decide +kernel)))⟩
theorem fo_X1_13 : Cond.fieldLink RX1 13 RX1 (TX1 9).2.1 (TX1 9).2.2.1 ∈ lw_tbl := lw1 (List.mem_of_getElem? (i := 201) (by decide +kernel))
theorem fl_X1_17 : FLk RX1 17 1 2 := ⟨(RX1, TX1, 10), rfl, by decide, cok_X1, Or.inl (lw1 (List.mem_of_getElem? (i := 181) (by decide +kernel)))⟩
theorem fl_X1_21 : FLk RX1 21 1 1 := ⟨(RX1, TX1, 10), rfl, by decide, cok_X1, Or.inl (lw1 (List.mem_of_getElem? (i := 174) (by decide +kernel)))⟩
theorem fl_X1_24 : FLk RX1 24 1 3 := ⟨(RX1, TX1, 10), rfl, by decide, cok_X1, Or.inl (lw1 (List.mem_of_getElem? (i := 184) (by decide +kernel)))⟩
theorem fl_X1_27 : FLk RX1 27 1 4 := ⟨(RX1, TX1, 10), rfl, by decide, cok_X1, Or.inl (lw1 (List.mem_of_getElem? (i := 186) (by decide +kernel)))⟩
theorem fl_X1_30 : FLk RX1 30 1 5 := ⟨(RX1, TX1, 10), rfl, by decide, cok_X1, Or.inl (lw1 (List.mem_of_getElem? (i := 189) (by decide +kernel)))⟩
theorem fl_X1_33 : FLk RX1 33 1 6 := ⟨(RX1, TX1, 10), rfl, by decide, cok_X1, Or.inl (lw1 (List.mem_of_getElem? (i := 195) (by decide +kernel)))⟩
theorem fl_X1_36 : FLk RX1 36 1 7 := ⟨(RX1, TX1, 10), rfl, by decide, cok_X1, Or.inl (lw1 (List.mem_of_getElem? (i := 198) (by decide +kernel)))⟩
theorem fl_X1_39 : FLk RX1 39 1 8 := ⟨(RX1, TX1, 10), rfl, by decide, cok_X1, Or.inl (lw1 (List.mem_of_getElem? (i := 200) (by decide +kernel)))⟩
theorem ml_X1_42 : MLk RX1 42 yX1_rowMask := Or.inl (lw4 (List.mem_of_getElem? (i := 233) (by decide +kernel)))
theorem ml_X1_46 : MLk RX1 46 yX1_countLit := Or.inl (lw4 (List.mem_of_getElem? (i := 175) (by decide +kernel)))
theorem ml_X1_50 : MLk RX1 50 yJ6_bitCount_0f7a4 := Or.inl (lw5 (List.mem_of_getElem? (i := 227) (by decide +kernel)))
theorem ml_X1_56 : MLk RX1 56 yX1_around := Or.inl (lw6 (List.mem_of_getElem? (i := 87) (by decide +kernel)))
theorem ml_X1_59 : MLk RX1 59 yX1_rowOf := Or.inl (lw6 (List.mem_of_getElem? (i := 78) (by decide +kernel)))
theorem lk_X2_1 : Cond.methodLink RX2 1 Lib.objectInit ∈ lw_tbl := lw2 (List.mem_of_getElem? (i := 219) (by decide +kernel))
theorem fl_X2_9 : FLk RX2 9 2 0 := ⟨(RX2, TX2, 8), rfl, by decide, cok_X2, Or.inl (lw2 (List.mem_of_getElem? (i := 220) (by decide +kernel)))⟩
theorem fo_X2_9 : Cond.fieldLink RX2 9 RX2 (TX2 0).2.1 (TX2 0).2.2.1 ∈ lw_tbl := lw2 (List.mem_of_getElem? (i := 220) (by decide +kernel))
theorem fl_X2_15 : FLk RX2 15 5 1 := ⟨(RX5, TX5, 16), rfl, by decide, cok_X5, Or.inr ⟨"WindowHill", lw2 (List.mem_of_getElem? (i := 40) (by decide +kernel))⟩⟩
theorem fl_X2_21 : FLk RX2 21 2 1 := ⟨(RX2, TX2, 8), rfl, by decide, cok_X2, Or.inl (lw2 (List.mem_of_getElem? (i := 221) (by decide +kernel)))⟩
theorem fl_X2_25 : FLk RX2 25 2 2 := ⟨(RX2, TX2, 8), rfl, by decide, cok_X2, Or.inl (lw2 (List.mem_of_getElem? (i := 222) (by decide +kernel)))⟩
theorem fl_X2_28 : FLk RX2 28 2 3 := ⟨(RX2, TX2, 8), rfl, by decide, cok_X2, Or.inl (lw2 (List.mem_of_getElem? (i := 224) (by decide +kernel)))⟩
theorem fl_X2_31 : FLk RX2 31 2 4 := ⟨(RX2, TX2, 8), rfl, by decide, cok_X2, Or.inl (lw2 (List.mem_of_getElem? (i := 226) (by decide +kernel)))⟩
theorem fl_X2_34 : FLk RX2 34 2 5 := ⟨(RX2, TX2, 8), rfl, by decide, cok_X2, Or.inl (lw2 (List.mem_of_getElem? (i := 228) (by decide +kernel)))⟩
theorem fl_X2_37 : FLk RX2 37 2 6 := ⟨(RX2, TX2, 8), rfl, by decide, cok_X2, Or.inl (lw2 (List.mem_of_getElem? (i := 230) (by decide +kernel)))⟩
theorem fl_X2_40 : FLk RX2 40 2 7 := ⟨(RX2, TX2, 8), rfl, by decide, cok_X2, Or.inl (lw2 (List.mem_of_getElem? (i := 232) (by decide +kernel)))⟩
theorem kc_X2_44 : Cond.constant RX2 44 (100000) ∈ lw_tbl := lw6 (List.mem_of_getElem? (i := 112) (by decide +kernel))
theorem fl_X2_45 : FLk RX2 45 8 6 := ⟨(RX9, TX9, 8), rfl, by decide, cok_X9, Or.inr ⟨"WindowHill", lw2 (List.mem_of_getElem? (i := 10) (by decide +kernel))⟩⟩
theorem fl_X2_48 : FLk RX2 48 8 0 := ⟨(RX9, TX9, 8), rfl, by decide, cok_X9, Or.inr ⟨"WindowHill", lw1 (List.mem_of_getElem? (i := 232) (by decide +kernel))⟩⟩
theorem ml_X2_53 : MLk RX2 53 yX2_leaveBlock := Or.inl (lw6 (List.mem_of_getElem? (i := 113) (by decide +kernel)))
theorem ml_X2_57 : MLk RX2 57 yX2_doStep := Or.inl (lw6 (List.mem_of_getElem? (i := 117) (by decide +kernel)))
theorem fl_X2_61 : FLk RX2 61 8 4 := ⟨(RX9, TX9, 8), rfl, by decide, cok_X9, Or.inr ⟨"WindowHill", lw2 (List.mem_of_getElem? (i := 4) (by decide +kernel))⟩⟩
theorem fl_X2_64 : FLk RX2 64 8 2 := ⟨(RX9, TX9, 8), rfl, by decide, cok_X9, Or.inr ⟨"WindowHill", lw1 (List.mem_of_getElem? (i := 238) (by decide +kernel))⟩⟩
theorem ml_X2_67 : MLk RX2 67 yX5_passNights := Or.inr ⟨"WindowHill", lw6 (List.mem_of_getElem? (i := 121) (by decide +kernel))⟩
theorem fl_X2_71 : FLk RX2 71 8 3 := ⟨(RX9, TX9, 8), rfl, by decide, cok_X9, Or.inr ⟨"WindowHill", lw2 (List.mem_of_getElem? (i := 1) (by decide +kernel))⟩⟩
theorem ml_X2_74 : MLk RX2 74 yX2_turnLamp := Or.inl (lw6 (List.mem_of_getElem? (i := 122) (by decide +kernel)))
theorem fl_X2_78 : FLk RX2 78 5 12 := ⟨(RX5, TX5, 16), rfl, by decide, cok_X5, Or.inr ⟨"WindowHill", lw2 (List.mem_of_getElem? (i := 68) (by decide +kernel))⟩⟩
theorem ml_X2_81 : MLk RX2 81 yX5_holdElection := Or.inr ⟨"WindowHill", lw6 (List.mem_of_getElem? (i := 127) (by decide +kernel))⟩
theorem ml_X2_85 : MLk RX2 85 yX2_blow := Or.inl (lw6 (List.mem_of_getElem? (i := 128) (by decide +kernel)))
theorem ml_X2_89 : MLk RX2 89 yX2_bear := Or.inl (lw6 (List.mem_of_getElem? (i := 137) (by decide +kernel)))
theorem ml_X2_93 : MLk RX2 93 yX2_isTrue := Or.inl (lw6 (List.mem_of_getElem? (i := 141) (by decide +kernel)))
theorem fl_X2_97 : FLk RX2 97 5 13 := ⟨(RX5, TX5, 16), rfl, by decide, cok_X5, Or.inr ⟨"WindowHill", lw2 (List.mem_of_getElem? (i := 74) (by decide +kernel))⟩⟩
theorem ml_X2_100 : MLk RX2 100 yJ6_bitCount_0f7a4 := Or.inl (lw6 (List.mem_of_getElem? (i := 145) (by decide +kernel)))
theorem fl_X2_106 : FLk RX2 106 8 1 := ⟨(RX9, TX9, 8), rfl, by decide, cok_X9, Or.inr ⟨"WindowHill", lw1 (List.mem_of_getElem? (i := 235) (by decide +kernel))⟩⟩
theorem ml_X2_109 : MLk RX2 109 yX5_isStill := Or.inr ⟨"WindowHill", lw6 (List.mem_of_getElem? (i := 146) (by decide +kernel))⟩
theorem fl_X2_112 : FLk RX2 112 5 0 := ⟨(RX5, TX5, 16), rfl, by decide, cok_X5, Or.inr ⟨"WindowHill", lw2 (List.mem_of_getElem? (i := 36) (by decide +kernel))⟩⟩
theorem ml_X2_116 : MLk RX2 116 yX1_placeOf := Or.inr ⟨"WindowHill", lw6 (List.mem_of_getElem? (i := 126) (by decide +kernel))⟩
theorem kc_X2_122 : Cond.constant RX2 122 (65536) ∈ lw_tbl := lw6 (List.mem_of_getElem? (i := 136) (by decide +kernel))
theorem fl_X2_123 : FLk RX2 123 1 5 := ⟨(RX1, TX1, 10), rfl, by decide, cok_X1, Or.inr ⟨"WindowHill", lw1 (List.mem_of_getElem? (i := 193) (by decide +kernel))⟩⟩
theorem ml_X2_126 : MLk RX2 126 yX2_draw := Or.inl (lw6 (List.mem_of_getElem? (i := 132) (by decide +kernel)))
theorem fl_X2_129 : FLk RX2 129 1 0 := ⟨(RX1, TX1, 10), rfl, by decide, cok_X1, Or.inr ⟨"WindowHill", lw1 (List.mem_of_getElem? (i := 172) (by decide +kernel))⟩⟩
theorem fl_X2_132 : FLk RX2 132 1 1 := ⟨(RX1, TX1, 10), rfl, by decide, cok_X1, Or.inr ⟨"WindowHill", lw1 (List.mem_of_getElem? (i := 179) (by decide +kernel))⟩⟩
theorem lk_X3_1 : Cond.methodLink RX3 1 Lib.objectInit ∈ lw_tbl := lw2 (List.mem_of_getElem? (i := 154) (by decide +kernel))
theorem ml_X3_7 : MLk RX3 7 yX3_findRoundLength := Or.inl (lw5 (List.mem_of_getElem? (i := 42) (by decide +kernel)))
theorem fl_X3_13 : FLk RX3 13 5 13 := ⟨(RX5, TX5, 16), rfl, by decide, cok_X5, Or.inr ⟨"WindowHill", lw2 (List.mem_of_getElem? (i := 70) (by decide +kernel))⟩⟩
theorem fl_X3_19 : FLk RX3 19 3 1 := ⟨(RX3, TX3, 8), rfl, by decide, cok_X3, Or.inl (lw2 (List.mem_of_getElem? (i := 157) (by decide +kernel)))⟩
theorem ml_X3_22 : MLk RX3 22 yX5_after := Or.inr ⟨"WindowHill", lw5 (List.mem_of_getElem? (i := 50) (by decide +kernel))⟩
theorem fl_X3_26 : FLk RX3 26 3 0 := ⟨(RX3, TX3, 8), rfl, by decide, cok_X3, Or.inl (lw2 (List.mem_of_getElem? (i := 155) (by decide +kernel)))⟩
theorem ml_X3_29 : MLk RX3 29 yX5_nextOf := Or.inr ⟨"WindowHill", lw5 (List.mem_of_getElem? (i := 46) (by decide +kernel))⟩
theorem fl_X3_33 : FLk RX3 33 5 0 := ⟨(RX5, TX5, 16), rfl, by decide, cok_X5, Or.inr ⟨"WindowHill", lw2 (List.mem_of_getElem? (i := 35) (by decide +kernel))⟩⟩
theorem ml_X3_37 : MLk RX3 37 yX3_moveToCorner := Or.inl (lw5 (List.mem_of_getElem? (i := 68) (by decide +kernel)))
theorem fl_X3_41 : FLk RX3 41 3 5 := ⟨(RX3, TX3, 8), rfl, by decide, cok_X3, Or.inl (lw2 (List.mem_of_getElem? (i := 165) (by decide +kernel)))⟩
theorem fl_X3_44 : FLk RX3 44 3 6 := ⟨(RX3, TX3, 8), rfl, by decide, cok_X3, Or.inl (lw2 (List.mem_of_getElem? (i := 166) (by decide +kernel)))⟩
theorem fl_X3_47 : FLk RX3 47 3 7 := ⟨(RX3, TX3, 8), rfl, by decide, cok_X3, Or.inl (lw2 (List.mem_of_getElem? (i := 167) (by decide +kernel)))⟩
theorem fl_X3_50 : FLk RX3 50 3 2 := ⟨(RX3, TX3, 8), rfl, by decide, cok_X3, Or.inl (lw2 (List.mem_of_getElem? (i := 159) (by decide +kernel)))⟩
theorem fl_X3_53 : FLk RX3 53 3 3 := ⟨(RX3, TX3, 8), rfl, by decide, cok_X3, Or.inl (lw2 (List.mem_of_getElem? (i := 161) (by decide +kernel)))⟩
theorem fl_X3_56 : FLk RX3 56 3 4 := ⟨(RX3, TX3, 8), rfl, by decide, cok_X3, Or.inl (lw2 (List.mem_of_getElem? (i := 163) (by decide +kernel)))⟩
theorem fl_X3_59 : FLk RX3 59 1 1 := ⟨(RX1, TX1, 10), rfl, by decide, cok_X1, Or.inr ⟨"WindowHill", lw1 (List.mem_of_getElem? (i := 177) (by decide +kernel))⟩⟩
theorem ml_X3_64 : MLk RX3 64 yX1_rowMask := Or.inr ⟨"WindowHill", lw5 (List.mem_of_getElem? (i := 72) (by decide +kernel))⟩
theorem fl_X3_68 : FLk RX3 68 1 0 := ⟨(RX1, TX1, 10), rfl, by decide, cok_X1, Or.inr ⟨"WindowHill", lw1 (List.mem_of_getElem? (i := 170) (by decide +kernel))⟩⟩
theorem fl_X3_71 : FLk RX3 71 1 7 := ⟨(RX1, TX1, 10), rfl, by decide, cok_X1, Or.inr ⟨"WindowHill", lw1 (List.mem_of_getElem? (i := 199) (by decide +kernel))⟩⟩
theorem lk_X4_3 : Cond.methodLink RX4 3 Lib.objectInit ∈ lw_tbl := lw1 (List.mem_of_getElem? (i := 53) (by decide +kernel))
theorem fl_X4_11 : FLk RX4 11 4 0 := ⟨(RX4, TX4, 14), rfl, by decide, cok_X4, Or.inl (lw1 (List.mem_of_getElem? (i := 104) (by decide +kernel)))⟩
theorem fo_X4_11 : Cond.fieldLink RX4 11 RX4 (TX4 0).2.1 (TX4 0).2.2.1 ∈ lw_tbl := lw1 (List.mem_of_getElem? (i := 104) (by decide +kernel))
theorem fl_X4_15 : FLk RX4 15 4 1 := ⟨(RX4, TX4, 14), rfl, by decide, cok_X4, Or.inl (lw1 (List.mem_of_getElem? (i := 105) (by decide +kernel)))⟩
theorem fo_X4_15 : Cond.fieldLink RX4 15 RX4 (TX4 1).2.1 (TX4 1).2.2.1 ∈ lw_tbl := lw1 (List.mem_of_getElem? (i := 105) (by decide +kernel))
theorem fl_X4_19 : FLk RX4 19 4 2 := ⟨(RX4, TX4, 14), rfl, by decide, cok_X4, Or.inl (lw1 (List.mem_of_getElem? (i := 106) (by decide +kernel)))⟩
theorem fo_X4_19 : Cond.fieldLink RX4 19 RX4 (TX4 2).2.1 (TX4 2).2.2.1 ∈ lw_tbl := lw1 (List.mem_of_getElem? (i := 106) (by decide +kernel))
theorem fl_X4_22 : FLk RX4 22 4 3 := ⟨(RX4, TX4, 14), rfl, by decide, cok_X4, Or.inl (lw1 (List.mem_of_getElem? (i := 107) (by decide +kernel)))⟩
theorem fo_X4_22 : Cond.fieldLink RX4 22 RX4 (TX4 3).2.1 (TX4 3).2.2.1 ∈ lw_tbl := lw1 (List.mem_of_getElem? (i := 107) (by decide +kernel))
theorem fl_X4_26 : FLk RX4 26 4 4 := ⟨(RX4, TX4, 14), rfl, by decide, cok_X4, Or.inl (lw1 (List.mem_of_getElem? (i := 108) (by decide +kernel)))⟩
theorem fo_X4_26 : Cond.fieldLink RX4 26 RX4 (TX4 4).2.1 (TX4 4).2.2.1 ∈ lw_tbl := lw1 (List.mem_of_getElem? (i := 108) (by decide +kernel))
theorem fl_X4_29 : FLk RX4 29 4 5 := ⟨(RX4, TX4, 14), rfl, by decide, cok_X4, Or.inl (lw1 (List.mem_of_getElem? (i := 109) (by decide +kernel)))⟩
theorem fo_X4_29 : Cond.fieldLink RX4 29 RX4 (TX4 5).2.1 (TX4 5).2.2.1 ∈ lw_tbl := lw1 (List.mem_of_getElem? (i := 109) (by decide +kernel))
theorem fl_X4_32 : FLk RX4 32 4 6 := ⟨(RX4, TX4, 14), rfl, by decide, cok_X4, Or.inl (lw1 (List.mem_of_getElem? (i := 110) (by decide +kernel)))⟩
theorem fo_X4_32 : Cond.fieldLink RX4 32 RX4 (TX4 6).2.1 (TX4 6).2.2.1 ∈ lw_tbl := lw1 (List.mem_of_getElem? (i := 110) (by decide +kernel))
theorem fl_X4_35 : FLk RX4 35 4 12 := ⟨(RX4, TX4, 14), rfl, by decide, cok_X4, Or.inl (lw1 (List.mem_of_getElem? (i := 119) (by decide +kernel)))⟩
theorem fl_X4_39 : FLk RX4 39 4 13 := ⟨(RX4, TX4, 14), rfl, by decide, cok_X4, Or.inl (lw1 (List.mem_of_getElem? (i := 121) (by decide +kernel)))⟩
theorem ml_X4_44 : MLk RX4 44 yJ0_length_8abf5 := Or.inl (lw1 (List.mem_of_getElem? (i := 55) (by decide +kernel)))
theorem ml_X4_50 : MLk RX4 50 yJ0_charAt_5068e := Or.inl (lw1 (List.mem_of_getElem? (i := 65) (by decide +kernel)))
theorem kc_X4_54 : Cond.constantLong RX4 54 (27) ∈ lw_tbl := lw1 (List.mem_of_getElem? (i := 103) (by decide +kernel))
theorem fl_X4_56 : FLk RX4 56 4 7 := ⟨(RX4, TX4, 14), rfl, by decide, cok_X4, Or.inl (lw1 (List.mem_of_getElem? (i := 111) (by decide +kernel)))⟩
theorem lk_X4_59 : Cond.methodLink RX4 59 Lib.Math.min.name ∈ lw_tbl := lw3 (List.mem_of_getElem? (i := 185) (by decide +kernel))
theorem fl_X4_65 : FLk RX4 65 4 8 := ⟨(RX4, TX4, 14), rfl, by decide, cok_X4, Or.inl (lw1 (List.mem_of_getElem? (i := 113) (by decide +kernel)))⟩
theorem fl_X4_67 : FLk RX4 67 4 9 := ⟨(RX4, TX4, 14), rfl, by decide, cok_X4, Or.inl (lw1 (List.mem_of_getElem? (i := 114) (by decide +kernel)))⟩
theorem fl_X4_70 : FLk RX4 70 4 10 := ⟨(RX4, TX4, 14), rfl, by decide, cok_X4, Or.inl (lw1 (List.mem_of_getElem? (i := 115) (by decide +kernel)))⟩
theorem ml_X4_73 : MLk RX4 73 yX4_skipBlanks := Or.inl (lw3 (List.mem_of_getElem? (i := 188) (by decide +kernel)))
theorem ml_X4_77 : MLk RX4 77 yX4_addToken := Or.inl (lw3 (List.mem_of_getElem? (i := 192) (by decide +kernel)))
theorem ml_X4_80 : MLk RX4 80 yX4_note := Or.inl (lw3 (List.mem_of_getElem? (i := 201) (by decide +kernel)))
theorem ml_X4_84 : MLk RX4 84 yX4_addWord := Or.inl (lw3 (List.mem_of_getElem? (i := 196) (by decide +kernel)))
theorem ml_X4_87 : MLk RX4 87 yX4_addNumber := Or.inl (lw3 (List.mem_of_getElem? (i := 205) (by decide +kernel)))
theorem kc_X4_90 : Cond.constantLong RX4 90 (-1) ∈ lw_tbl := lw3 (List.mem_of_getElem? (i := 200) (by decide +kernel))
theorem ml_X4_92 : MLk RX4 92 yX4_isWord := Or.inl (lw3 (List.mem_of_getElem? (i := 219) (by decide +kernel)))
theorem ml_X4_96 : MLk RX4 96 yX4_fail := Or.inl (lw3 (List.mem_of_getElem? (i := 223) (by decide +kernel)))
theorem ml_X4_99 : MLk RX4 99 yX4_advance := Or.inl (lw3 (List.mem_of_getElem? (i := 227) (by decide +kernel)))
theorem ml_X4_102 : MLk RX4 102 yX4_isSign := Or.inl (lw4 (List.mem_of_getElem? (i := 10) (by decide +kernel)))
theorem ml_X4_105 : MLk RX4 105 yX4_isNumber := Or.inl (lw3 (List.mem_of_getElem? (i := 235) (by decide +kernel)))
theorem ml_X4_109 : MLk RX4 109 yX4_value := Or.inl (lw3 (List.mem_of_getElem? (i := 239) (by decide +kernel)))
theorem fl_X4_112 : FLk RX4 112 4 11 := ⟨(RX4, TX4, 14), rfl, by decide, cok_X4, Or.inl (lw1 (List.mem_of_getElem? (i := 118) (by decide +kernel)))⟩
theorem lk_X5_3 : Cond.methodLink RX5 3 Lib.objectInit ∈ lw_tbl := lw1 (List.mem_of_getElem? (i := 160) (by decide +kernel))
theorem kl_X5_9 : Cond.classLink RX5 9 "WindowHill$Hill" ∈ lw_tbl := lw1 (List.mem_of_getElem? (i := 161) (by decide +kernel))
theorem ml_X5_11 : MLk RX5 11 yX1_init := Or.inr ⟨"WindowHill", lw1 (List.mem_of_getElem? (i := 163) (by decide +kernel))⟩
theorem fl_X5_12 : FLk RX5 12 5 0 := ⟨(RX5, TX5, 16), rfl, by decide, cok_X5, Or.inl (lw2 (List.mem_of_getElem? (i := 31) (by decide +kernel)))⟩
theorem fo_X5_12 : Cond.fieldLink RX5 12 RX5 (TX5 0).2.1 (TX5 0).2.2.1 ∈ lw_tbl := lw2 (List.mem_of_getElem? (i := 31) (by decide +kernel))
theorem kl_X5_18 : Cond.classLink RX5 18 "WindowHill$Year" ∈ lw_tbl := lw1 (List.mem_of_getElem? (i := 225) (by decide +kernel))
theorem ml_X5_20 : MLk RX5 20 yX9_init := Or.inr ⟨"WindowHill", lw1 (List.mem_of_getElem? (i := 227) (by decide +kernel))⟩
theorem fl_X5_21 : FLk RX5 21 5 1 := ⟨(RX5, TX5, 16), rfl, by decide, cok_X5, Or.inl (lw2 (List.mem_of_getElem? (i := 39) (by decide +kernel)))⟩
theorem fo_X5_21 : Cond.fieldLink RX5 21 RX5 (TX5 1).2.1 (TX5 1).2.2.1 ∈ lw_tbl := lw2 (List.mem_of_getElem? (i := 39) (by decide +kernel))
theorem fl_X5_25 : FLk RX5 25 5 2 := ⟨(RX5, TX5, 16), rfl, by decide, cok_X5, Or.inl (lw2 (List.mem_of_getElem? (i := 42) (by decide +kernel)))⟩
theorem fo_X5_25 : Cond.fieldLink RX5 25 RX5 (TX5 2).2.1 (TX5 2).2.2.1 ∈ lw_tbl := lw2 (List.mem_of_getElem? (i := 42) (by decide +kernel))
theorem fl_X5_29 : FLk RX5 29 5 3 := ⟨(RX5, TX5, 16), rfl, by decide, cok_X5, Or.inl (lw2 (List.mem_of_getElem? (i := 44) (by decide +kernel)))⟩
theorem fo_X5_29 : Cond.fieldLink RX5 29 RX5 (TX5 3).2.1 (TX5 3).2.2.1 ∈ lw_tbl := lw2 (List.mem_of_getElem? (i := 44) (by decide +kernel))
theorem fl_X5_33 : FLk RX5 33 5 4 := ⟨(RX5, TX5, 16), rfl, by decide, cok_X5, Or.inl (lw2 (List.mem_of_getElem? (i := 47) (by decide +kernel)))⟩
theorem fo_X5_33 : Cond.fieldLink RX5 33 RX5 (TX5 4).2.1 (TX5 4).2.2.1 ∈ lw_tbl := lw2 (List.mem_of_getElem? (i := 47) (by decide +kernel))
theorem fl_X5_36 : FLk RX5 36 5 5 := ⟨(RX5, TX5, 16), rfl, by decide, cok_X5, Or.inl (lw2 (List.mem_of_getElem? (i := 50) (by decide +kernel)))⟩
theorem fo_X5_36 : Cond.fieldLink RX5 36 RX5 (TX5 5).2.1 (TX5 5).2.2.1 ∈ lw_tbl := lw2 (List.mem_of_getElem? (i := 50) (by decide +kernel))
theorem fl_X5_39 : FLk RX5 39 5 6 := ⟨(RX5, TX5, 16), rfl, by decide, cok_X5, Or.inl (lw2 (List.mem_of_getElem? (i := 52) (by decide +kernel)))⟩
theorem fo_X5_39 : Cond.fieldLink RX5 39 RX5 (TX5 6).2.1 (TX5 6).2.2.1 ∈ lw_tbl := lw2 (List.mem_of_getElem? (i := 52) (by decide +kernel))
theorem fl_X5_42 : FLk RX5 42 5 7 := ⟨(RX5, TX5, 16), rfl, by decide, cok_X5, Or.inl (lw2 (List.mem_of_getElem? (i := 55) (by decide +kernel)))⟩
theorem fo_X5_42 : Cond.fieldLink RX5 42 RX5 (TX5 7).2.1 (TX5 7).2.2.1 ∈ lw_tbl := lw2 (List.mem_of_getElem? (i := 55) (by decide +kernel))
theorem fl_X5_45 : FLk RX5 45 5 8 := ⟨(RX5, TX5, 16), rfl, by decide, cok_X5, Or.inl (lw2 (List.mem_of_getElem? (i := 58) (by decide +kernel)))⟩
theorem fo_X5_45 : Cond.fieldLink RX5 45 RX5 (TX5 8).2.1 (TX5 8).2.2.1 ∈ lw_tbl := lw2 (List.mem_of_getElem? (i := 58) (by decide +kernel))
theorem fl_X5_48 : FLk RX5 48 5 9 := ⟨(RX5, TX5, 16), rfl, by decide, cok_X5, Or.inl (lw2 (List.mem_of_getElem? (i := 60) (by decide +kernel)))⟩
theorem fo_X5_48 : Cond.fieldLink RX5 48 RX5 (TX5 9).2.1 (TX5 9).2.2.1 ∈ lw_tbl := lw2 (List.mem_of_getElem? (i := 60) (by decide +kernel))
theorem ml_X5_51 : MLk RX5 51 yX5_makeEmpty := Or.inl (lw3 (List.mem_of_getElem? (i := 15) (by decide +kernel)))
theorem ml_X5_55 : MLk RX5 55 yX1_addRow := Or.inr ⟨"WindowHill", lw3 (List.mem_of_getElem? (i := 30) (by decide +kernel))⟩
theorem ml_X5_58 : MLk RX5 58 yX5_addHouse := Or.inl (lw3 (List.mem_of_getElem? (i := 34) (by decide +kernel)))
theorem ml_X5_62 : MLk RX5 62 yX1_start := Or.inr ⟨"WindowHill", lw3 (List.mem_of_getElem? (i := 19) (by decide +kernel))⟩
theorem ml_X5_65 : MLk RX5 65 yX9_makeNone := Or.inr ⟨"WindowHill", lw3 (List.mem_of_getElem? (i := 23) (by decide +kernel))⟩
theorem fl_X5_68 : FLk RX5 68 5 10 := ⟨(RX5, TX5, 16), rfl, by decide, cok_X5, Or.inl (lw2 (List.mem_of_getElem? (i := 61) (by decide +kernel)))⟩
theorem fl_X5_72 : FLk RX5 72 5 11 := ⟨(RX5, TX5, 16), rfl, by decide, cok_X5, Or.inl (lw2 (List.mem_of_getElem? (i := 64) (by decide +kernel)))⟩
theorem fl_X5_75 : FLk RX5 75 5 12 := ⟨(RX5, TX5, 16), rfl, by decide, cok_X5, Or.inl (lw2 (List.mem_of_getElem? (i := 67) (by decide +kernel)))⟩
theorem fl_X5_78 : FLk RX5 78 5 13 := ⟨(RX5, TX5, 16), rfl, by decide, cok_X5, Or.inl (lw2 (List.mem_of_getElem? (i := 71) (by decide +kernel)))⟩
theorem fl_X5_81 : FLk RX5 81 5 14 := ⟨(RX5, TX5, 16), rfl, by decide, cok_X5, Or.inl (lw2 (List.mem_of_getElem? (i := 76) (by decide +kernel)))⟩
theorem fl_X5_84 : FLk RX5 84 5 15 := ⟨(RX5, TX5, 16), rfl, by decide, cok_X5, Or.inl (lw2 (List.mem_of_getElem? (i := 78) (by decide +kernel)))⟩
theorem ml_X5_87 : MLk RX5 87 yJ7_fill_53178 := Or.inl (lw3 (List.mem_of_getElem? (i := 27) (by decide +kernel)))
theorem fl_X5_93 : FLk RX5 93 1 4 := ⟨(RX1, TX1, 10), rfl, by decide, cok_X1, Or.inr ⟨"WindowHill", lw1 (List.mem_of_getElem? (i := 187) (by decide +kernel))⟩⟩
theorem fl_X5_96 : FLk RX5 96 1 5 := ⟨(RX1, TX1, 10), rfl, by decide, cok_X1, Or.inr ⟨"WindowHill", lw1 (List.mem_of_getElem? (i := 192) (by decide +kernel))⟩⟩
theorem fl_X5_99 : FLk RX5 99 1 6 := ⟨(RX1, TX1, 10), rfl, by decide, cok_X1, Or.inr ⟨"WindowHill", lw1 (List.mem_of_getElem? (i := 197) (by decide +kernel))⟩⟩
theorem ml_X5_102 : MLk RX5 102 yX1_copyFrom := Or.inr ⟨"WindowHill", lw6 (List.mem_of_getElem? (i := 159) (by decide +kernel))⟩
theorem ml_X5_106 : MLk RX5 106 yX9_copyFrom := Or.inr ⟨"WindowHill", lw6 (List.mem_of_getElem? (i := 163) (by decide +kernel))⟩
theorem lk_X5_109 : Cond.methodLink RX5 109 arraycopyName ∈ lw_tbl := lw6 (List.mem_of_getElem? (i := 164) (by decide +kernel))
theorem ml_X5_115 : MLk RX5 115 yX5_ruleNamed := Or.inl (lw4 (List.mem_of_getElem? (i := 56) (by decide +kernel)))
theorem ml_X5_119 : MLk RX5 119 yX5_bornNow := Or.inl (lw5 (List.mem_of_getElem? (i := 14) (by decide +kernel)))
theorem ml_X5_123 : MLk RX5 123 yX5_staysNow := Or.inl (lw5 (List.mem_of_getElem? (i := 18) (by decide +kernel)))
theorem ml_X5_126 : MLk RX5 126 yX1_step := Or.inr ⟨"WindowHill", lw5 (List.mem_of_getElem? (i := 22) (by decide +kernel))⟩
theorem ml_X5_130 : MLk RX5 130 yJ6_bitCount_0f7a4 := Or.inl (lw4 (List.mem_of_getElem? (i := 215) (by decide +kernel)))
theorem ml_X5_136 : MLk RX5 136 yX5_passNight := Or.inl (lw5 (List.mem_of_getElem? (i := 10) (by decide +kernel)))
theorem fl_X5_139 : FLk RX5 139 1 9 := ⟨(RX1, TX1, 10), rfl, by decide, cok_X1, Or.inr ⟨"WindowHill", lw1 (List.mem_of_getElem? (i := 202) (by decide +kernel))⟩⟩
theorem ml_X5_142 : MLk RX5 142 yX1_countLit := Or.inr ⟨"WindowHill", lw6 (List.mem_of_getElem? (i := 29) (by decide +kernel))⟩
theorem lk_X5_146 : Cond.methodLink RX5 146 Lib.Math.max.name ∈ lw_tbl := lw6 (List.mem_of_getElem? (i := 42) (by decide +kernel))
theorem ml_X5_152 : MLk RX5 152 yX5_choiceOf := Or.inl (lw6 (List.mem_of_getElem? (i := 51) (by decide +kernel)))
theorem ml_X5_155 : MLk RX5 155 yX5_lookAtRules := Or.inl (lw6 (List.mem_of_getElem? (i := 60) (by decide +kernel)))
theorem ml_X5_158 : MLk RX5 158 yX5_countVotes := Or.inl (lw6 (List.mem_of_getElem? (i := 61) (by decide +kernel)))
theorem ml_X6_9 : MLk RX6 9 yX6_takeWide := Or.inl (lw3 (List.mem_of_getElem? (i := 212) (by decide +kernel)))
theorem ml_X6_15 : MLk RX6 15 yX6_takeRows := Or.inl (lw4 (List.mem_of_getElem? (i := 14) (by decide +kernel)))
theorem ml_X6_18 : MLk RX6 18 yX6_takeParts := Or.inl (lw4 (List.mem_of_getElem? (i := 31) (by decide +kernel)))
theorem ml_X6_23 : MLk RX6 23 yX4_takeWord := Or.inr ⟨"WindowHill", lw3 (List.mem_of_getElem? (i := 215) (by decide +kernel))⟩
theorem ml_X6_29 : MLk RX6 29 yX4_takeNumber := Or.inr ⟨"WindowHill", lw3 (List.mem_of_getElem? (i := 231) (by decide +kernel))⟩
theorem fl_X6_33 : FLk RX6 33 4 11 := ⟨(RX4, TX4, 14), rfl, by decide, cok_X4, Or.inr ⟨"WindowHill", lw1 (List.mem_of_getElem? (i := 116) (by decide +kernel))⟩⟩
theorem ml_X6_37 : MLk RX6 37 yX4_isWord := Or.inr ⟨"WindowHill", lw4 (List.mem_of_getElem? (i := 3) (by decide +kernel))⟩
theorem ml_X6_40 : MLk RX6 40 yX4_advance := Or.inr ⟨"WindowHill", lw4 (List.mem_of_getElem? (i := 4) (by decide +kernel))⟩
theorem ml_X6_43 : MLk RX6 43 yX5_makeEmpty := Or.inr ⟨"WindowHill", lw4 (List.mem_of_getElem? (i := 5) (by decide +kernel))⟩
theorem ml_X6_49 : MLk RX6 49 yX4_takeSign := Or.inr ⟨"WindowHill", lw4 (List.mem_of_getElem? (i := 6) (by decide +kernel))⟩
theorem ml_X6_52 : MLk RX6 52 yX4_fail := Or.inr ⟨"WindowHill", lw4 (List.mem_of_getElem? (i := 17) (by decide +kernel))⟩
theorem ml_X6_55 : MLk RX6 55 yX6_takeLetters := Or.inl (lw4 (List.mem_of_getElem? (i := 18) (by decide +kernel)))
theorem fl_X6_58 : FLk RX6 58 5 0 := ⟨(RX5, TX5, 16), rfl, by decide, cok_X5, Or.inr ⟨"WindowHill", lw2 (List.mem_of_getElem? (i := 34) (by decide +kernel))⟩⟩
theorem fl_X6_62 : FLk RX6 62 1 1 := ⟨(RX1, TX1, 10), rfl, by decide, cok_X1, Or.inr ⟨"WindowHill", lw1 (List.mem_of_getElem? (i := 176) (by decide +kernel))⟩⟩
theorem fl_X6_65 : FLk RX6 65 1 0 := ⟨(RX1, TX1, 10), rfl, by decide, cok_X1, Or.inr ⟨"WindowHill", lw1 (List.mem_of_getElem? (i := 169) (by decide +kernel))⟩⟩
theorem ml_X6_68 : MLk RX6 68 yX4_isWordOf := Or.inr ⟨"WindowHill", lw4 (List.mem_of_getElem? (i := 21) (by decide +kernel))⟩
theorem ml_X6_71 : MLk RX6 71 yX4_letterAt := Or.inr ⟨"WindowHill", lw4 (List.mem_of_getElem? (i := 25) (by decide +kernel))⟩
theorem ml_X6_75 : MLk RX6 75 yX5_addHouse := Or.inr ⟨"WindowHill", lw4 (List.mem_of_getElem? (i := 29) (by decide +kernel))⟩
theorem ml_X6_79 : MLk RX6 79 yX1_addRow := Or.inr ⟨"WindowHill", lw4 (List.mem_of_getElem? (i := 30) (by decide +kernel))⟩
theorem ml_X6_82 : MLk RX6 82 yX4_isEnd := Or.inr ⟨"WindowHill", lw4 (List.mem_of_getElem? (i := 34) (by decide +kernel))⟩
theorem ml_X6_86 : MLk RX6 86 yX6_takeRule := Or.inl (lw4 (List.mem_of_getElem? (i := 38) (by decide +kernel)))
theorem ml_X6_89 : MLk RX6 89 yX6_takeCitizen := Or.inl (lw4 (List.mem_of_getElem? (i := 65) (by decide +kernel)))
theorem ml_X6_92 : MLk RX6 92 yX4_isName := Or.inr ⟨"WindowHill", lw4 (List.mem_of_getElem? (i := 44) (by decide +kernel))⟩
theorem ml_X6_95 : MLk RX6 95 yX4_name := Or.inr ⟨"WindowHill", lw4 (List.mem_of_getElem? (i := 48) (by decide +kernel))⟩
theorem ml_X6_99 : MLk RX6 99 yX5_isNameTaken := Or.inr ⟨"WindowHill", lw4 (List.mem_of_getElem? (i := 52) (by decide +kernel))⟩
theorem fl_X6_103 : FLk RX6 103 5 10 := ⟨(RX5, TX5, 16), rfl, by decide, cok_X5, Or.inr ⟨"WindowHill", lw2 (List.mem_of_getElem? (i := 62) (by decide +kernel))⟩⟩
theorem ml_X6_106 : MLk RX6 106 yX6_takeNewName := Or.inl (lw4 (List.mem_of_getElem? (i := 41) (by decide +kernel)))
theorem fl_X6_109 : FLk RX6 109 5 2 := ⟨(RX5, TX5, 16), rfl, by decide, cok_X5, Or.inr ⟨"WindowHill", lw2 (List.mem_of_getElem? (i := 43) (by decide +kernel))⟩⟩
theorem ml_X6_113 : MLk RX6 113 yX6_takeSet := Or.inl (lw4 (List.mem_of_getElem? (i := 60) (by decide +kernel)))
theorem fl_X6_117 : FLk RX6 117 5 3 := ⟨(RX5, TX5, 16), rfl, by decide, cok_X5, Or.inr ⟨"WindowHill", lw2 (List.mem_of_getElem? (i := 45) (by decide +kernel))⟩⟩
theorem fl_X6_121 : FLk RX6 121 5 4 := ⟨(RX5, TX5, 16), rfl, by decide, cok_X5, Or.inr ⟨"WindowHill", lw2 (List.mem_of_getElem? (i := 48) (by decide +kernel))⟩⟩
theorem ml_X6_124 : MLk RX6 124 yX4_isNumber := Or.inr ⟨"WindowHill", lw4 (List.mem_of_getElem? (i := 63) (by decide +kernel))⟩
theorem ml_X6_127 : MLk RX6 127 yX4_value := Or.inr ⟨"WindowHill", lw4 (List.mem_of_getElem? (i := 64) (by decide +kernel))⟩
theorem fl_X6_131 : FLk RX6 131 5 11 := ⟨(RX5, TX5, 16), rfl, by decide, cok_X5, Or.inr ⟨"WindowHill", lw2 (List.mem_of_getElem? (i := 65) (by decide +kernel))⟩⟩
theorem fl_X6_134 : FLk RX6 134 5 5 := ⟨(RX5, TX5, 16), rfl, by decide, cok_X5, Or.inr ⟨"WindowHill", lw2 (List.mem_of_getElem? (i := 51) (by decide +kernel))⟩⟩
theorem fl_X6_137 : FLk RX6 137 5 6 := ⟨(RX5, TX5, 16), rfl, by decide, cok_X5, Or.inr ⟨"WindowHill", lw2 (List.mem_of_getElem? (i := 53) (by decide +kernel))⟩⟩
theorem fl_X6_140 : FLk RX6 140 5 7 := ⟨(RX5, TX5, 16), rfl, by decide, cok_X5, Or.inr ⟨"WindowHill", lw2 (List.mem_of_getElem? (i := 56) (by decide +kernel))⟩⟩
theorem lk_X7_1 : Cond.methodLink RX7 1 Lib.objectInit ∈ lw_tbl := lw1 (List.mem_of_getElem? (i := 35) (by decide +kernel))
theorem fl_X7_9 : FLk RX7 9 6 0 := ⟨(RX7, TX7, 3), rfl, by decide, cok_X7, Or.inl (lw1 (List.mem_of_getElem? (i := 36) (by decide +kernel)))⟩
theorem fo_X7_9 : Cond.fieldLink RX7 9 RX7 (TX7 0).2.1 (TX7 0).2.2.1 ∈ lw_tbl := lw1 (List.mem_of_getElem? (i := 36) (by decide +kernel))
theorem fl_X7_13 : FLk RX7 13 6 1 := ⟨(RX7, TX7, 3), rfl, by decide, cok_X7, Or.inl (lw1 (List.mem_of_getElem? (i := 37) (by decide +kernel)))⟩
theorem fo_X7_13 : Cond.fieldLink RX7 13 RX7 (TX7 1).2.1 (TX7 1).2.2.1 ∈ lw_tbl := lw1 (List.mem_of_getElem? (i := 37) (by decide +kernel))
theorem fl_X7_17 : FLk RX7 17 6 2 := ⟨(RX7, TX7, 3), rfl, by decide, cok_X7, Or.inl (lw1 (List.mem_of_getElem? (i := 38) (by decide +kernel)))⟩
theorem fo_X7_17 : Cond.fieldLink RX7 17 RX7 (TX7 2).2.1 (TX7 2).2.2.1 ∈ lw_tbl := lw1 (List.mem_of_getElem? (i := 38) (by decide +kernel))
theorem ml_X7_20 : MLk RX7 20 yX7_cut := Or.inl (lw3 (List.mem_of_getElem? (i := 135) (by decide +kernel)))
theorem lk_X7_24 : Cond.methodLink RX7 24 arraycopyName ∈ lw_tbl := lw3 (List.mem_of_getElem? (i := 162) (by decide +kernel))
theorem lk_X8_1 : Cond.methodLink RX8 1 Lib.objectInit ∈ lw_tbl := lw2 (List.mem_of_getElem? (i := 190) (by decide +kernel))
theorem fl_X8_7 : FLk RX8 7 7 0 := ⟨(RX8, TX8, 6), rfl, by decide, cok_X8, Or.inl (lw2 (List.mem_of_getElem? (i := 191) (by decide +kernel)))⟩
theorem fo_X8_7 : Cond.fieldLink RX8 7 RX8 (TX8 0).2.1 (TX8 0).2.2.1 ∈ lw_tbl := lw2 (List.mem_of_getElem? (i := 191) (by decide +kernel))
theorem fl_X8_13 : FLk RX8 13 7 1 := ⟨(RX8, TX8, 6), rfl, by decide, cok_X8, Or.inl (lw2 (List.mem_of_getElem? (i := 192) (by decide +kernel)))⟩
theorem fl_X8_17 : FLk RX8 17 5 0 := ⟨(RX5, TX5, 16), rfl, by decide, cok_X5, Or.inr ⟨"WindowHill", lw2 (List.mem_of_getElem? (i := 33) (by decide +kernel))⟩⟩
theorem fl_X8_23 : FLk RX8 23 1 5 := ⟨(RX1, TX1, 10), rfl, by decide, cok_X1, Or.inr ⟨"WindowHill", lw1 (List.mem_of_getElem? (i := 190) (by decide +kernel))⟩⟩
theorem ml_X8_28 : MLk RX8 28 yX8_near := Or.inl (lw5 (List.mem_of_getElem? (i := 165) (by decide +kernel)))
theorem ml_X8_32 : MLk RX8 32 yX8_listLamps := Or.inl (lw5 (List.mem_of_getElem? (i := 172) (by decide +kernel)))
theorem ml_X8_36 : MLk RX8 36 yX8_trySet := Or.inl (lw5 (List.mem_of_getElem? (i := 176) (by decide +kernel)))
theorem ml_X8_40 : MLk RX8 40 yX8_tryOnes := Or.inl (lw5 (List.mem_of_getElem? (i := 181) (by decide +kernel)))
theorem ml_X8_44 : MLk RX8 44 yX8_tryTwos := Or.inl (lw5 (List.mem_of_getElem? (i := 185) (by decide +kernel)))
theorem ml_X8_47 : MLk RX8 47 yX8_tryThrees := Or.inl (lw5 (List.mem_of_getElem? (i := 189) (by decide +kernel)))
theorem ml_X8_50 : MLk RX8 50 yX1_around := Or.inr ⟨"WindowHill", lw5 (List.mem_of_getElem? (i := 168) (by decide +kernel))⟩
theorem fl_X8_54 : FLk RX8 54 5 13 := ⟨(RX5, TX5, 16), rfl, by decide, cok_X5, Or.inr ⟨"WindowHill", lw2 (List.mem_of_getElem? (i := 73) (by decide +kernel))⟩⟩
theorem ml_X8_57 : MLk RX8 57 yX5_after := Or.inr ⟨"WindowHill", lw5 (List.mem_of_getElem? (i := 180) (by decide +kernel))⟩
theorem fl_X8_61 : FLk RX8 61 7 2 := ⟨(RX8, TX8, 6), rfl, by decide, cok_X8, Or.inl (lw2 (List.mem_of_getElem? (i := 193) (by decide +kernel)))⟩
theorem ml_X8_64 : MLk RX8 64 yJ6_bitCount_0f7a4 := Or.inl (lw5 (List.mem_of_getElem? (i := 200) (by decide +kernel)))
theorem fl_X8_69 : FLk RX8 69 7 4 := ⟨(RX8, TX8, 6), rfl, by decide, cok_X8, Or.inl (lw2 (List.mem_of_getElem? (i := 197) (by decide +kernel)))⟩
theorem ml_X8_72 : MLk RX8 72 yX8_countSpoilt := Or.inl (lw5 (List.mem_of_getElem? (i := 209) (by decide +kernel)))
theorem fl_X8_76 : FLk RX8 76 7 3 := ⟨(RX8, TX8, 6), rfl, by decide, cok_X8, Or.inl (lw2 (List.mem_of_getElem? (i := 195) (by decide +kernel)))⟩
theorem fl_X8_79 : FLk RX8 79 7 5 := ⟨(RX8, TX8, 6), rfl, by decide, cok_X8, Or.inl (lw2 (List.mem_of_getElem? (i := 199) (by decide +kernel)))⟩
theorem ml_X8_82 : MLk RX8 82 yX8_tryMend := Or.inl (lw5 (List.mem_of_getElem? (i := 218) (by decide +kernel)))
theorem ml_X8_86 : MLk RX8 86 yX5_nextOf := Or.inr ⟨"WindowHill", lw5 (List.mem_of_getElem? (i := 222) (by decide +kernel))⟩
theorem ml_X8_89 : MLk RX8 89 yX1_countUnlike := Or.inr ⟨"WindowHill", lw5 (List.mem_of_getElem? (i := 223) (by decide +kernel))⟩
theorem lk_X9_3 : Cond.methodLink RX9 3 Lib.objectInit ∈ lw_tbl := lw1 (List.mem_of_getElem? (i := 230) (by decide +kernel))
theorem fl_X9_11 : FLk RX9 11 8 0 := ⟨(RX9, TX9, 8), rfl, by decide, cok_X9, Or.inl (lw1 (List.mem_of_getElem? (i := 231) (by decide +kernel)))⟩
theorem fo_X9_11 : Cond.fieldLink RX9 11 RX9 (TX9 0).2.1 (TX9 0).2.2.1 ∈ lw_tbl := lw1 (List.mem_of_getElem? (i := 231) (by decide +kernel))
theorem fl_X9_15 : FLk RX9 15 8 1 := ⟨(RX9, TX9, 8), rfl, by decide, cok_X9, Or.inl (lw1 (List.mem_of_getElem? (i := 234) (by decide +kernel)))⟩
theorem fo_X9_15 : Cond.fieldLink RX9 15 RX9 (TX9 1).2.1 (TX9 1).2.2.1 ∈ lw_tbl := lw1 (List.mem_of_getElem? (i := 234) (by decide +kernel))
theorem fl_X9_18 : FLk RX9 18 8 2 := ⟨(RX9, TX9, 8), rfl, by decide, cok_X9, Or.inl (lw1 (List.mem_of_getElem? (i := 237) (by decide +kernel)))⟩
theorem fo_X9_18 : Cond.fieldLink RX9 18 RX9 (TX9 2).2.1 (TX9 2).2.2.1 ∈ lw_tbl := lw1 (List.mem_of_getElem? (i := 237) (by decide +kernel))
theorem fl_X9_21 : FLk RX9 21 8 3 := ⟨(RX9, TX9, 8), rfl, by decide, cok_X9, Or.inl (lw2 (List.mem_of_getElem? (i := 0) (by decide +kernel)))⟩
theorem fo_X9_21 : Cond.fieldLink RX9 21 RX9 (TX9 3).2.1 (TX9 3).2.2.1 ∈ lw_tbl := lw2 (List.mem_of_getElem? (i := 0) (by decide +kernel))
theorem fl_X9_24 : FLk RX9 24 8 4 := ⟨(RX9, TX9, 8), rfl, by decide, cok_X9, Or.inl (lw2 (List.mem_of_getElem? (i := 3) (by decide +kernel)))⟩
theorem fo_X9_24 : Cond.fieldLink RX9 24 RX9 (TX9 4).2.1 (TX9 4).2.2.1 ∈ lw_tbl := lw2 (List.mem_of_getElem? (i := 3) (by decide +kernel))
theorem fl_X9_27 : FLk RX9 27 8 5 := ⟨(RX9, TX9, 8), rfl, by decide, cok_X9, Or.inl (lw2 (List.mem_of_getElem? (i := 6) (by decide +kernel)))⟩
theorem fl_X9_31 : FLk RX9 31 8 6 := ⟨(RX9, TX9, 8), rfl, by decide, cok_X9, Or.inl (lw2 (List.mem_of_getElem? (i := 8) (by decide +kernel)))⟩
theorem fl_X9_35 : FLk RX9 35 8 7 := ⟨(RX9, TX9, 8), rfl, by decide, cok_X9, Or.inl (lw2 (List.mem_of_getElem? (i := 11) (by decide +kernel)))⟩
theorem ml_X9_38 : MLk RX9 38 yX9_makeNone := Or.inl (lw4 (List.mem_of_getElem? (i := 86) (by decide +kernel)))
theorem lk_X9_41 : Cond.methodLink RX9 41 arraycopyName ∈ lw_tbl := lw4 (List.mem_of_getElem? (i := 150) (by decide +kernel))
theorem ml_X9_47 : MLk RX9 47 yX9_isBlock := Or.inl (lw4 (List.mem_of_getElem? (i := 99) (by decide +kernel)))
theorem ml_X10_9 : MLk RX10 9 yX4_isEnd := Or.inr ⟨"WindowHill", lw4 (List.mem_of_getElem? (i := 90) (by decide +kernel))⟩
theorem fl_X10_15 : FLk RX10 15 8 6 := ⟨(RX9, TX9, 8), rfl, by decide, cok_X9, Or.inr ⟨"WindowHill", lw2 (List.mem_of_getElem? (i := 9) (by decide +kernel))⟩⟩
theorem ml_X10_19 : MLk RX10 19 yX4_isWord := Or.inr ⟨"WindowHill", lw4 (List.mem_of_getElem? (i := 91) (by decide +kernel))⟩
theorem ml_X10_23 : MLk RX10 23 yX10_takeEnd := Or.inl (lw4 (List.mem_of_getElem? (i := 92) (by decide +kernel)))
theorem ml_X10_29 : MLk RX10 29 yX10_takeStepWord := Or.inl (lw4 (List.mem_of_getElem? (i := 108) (by decide +kernel)))
theorem ml_X10_32 : MLk RX10 32 yX10_takeRest := Or.inl (lw4 (List.mem_of_getElem? (i := 123) (by decide +kernel)))
theorem ml_X10_36 : MLk RX10 36 yX4_takeSign := Or.inr ⟨"WindowHill", lw4 (List.mem_of_getElem? (i := 145) (by decide +kernel))⟩
theorem ml_X10_39 : MLk RX10 39 yX9_countOpen := Or.inr ⟨"WindowHill", lw4 (List.mem_of_getElem? (i := 119) (by decide +kernel))⟩
theorem ml_X10_43 : MLk RX10 43 yX4_fail := Or.inr ⟨"WindowHill", lw4 (List.mem_of_getElem? (i := 102) (by decide +kernel))⟩
theorem ml_X10_46 : MLk RX10 46 yX9_openEntry := Or.inr ⟨"WindowHill", lw4 (List.mem_of_getElem? (i := 95) (by decide +kernel))⟩
theorem ml_X10_49 : MLk RX10 49 yX9_add := Or.inr ⟨"WindowHill", lw4 (List.mem_of_getElem? (i := 103) (by decide +kernel))⟩
theorem fl_X10_53 : FLk RX10 53 8 4 := ⟨(RX9, TX9, 8), rfl, by decide, cok_X9, Or.inr ⟨"WindowHill", lw2 (List.mem_of_getElem? (i := 5) (by decide +kernel))⟩⟩
theorem ml_X10_57 : MLk RX10 57 yX4_advance := Or.inr ⟨"WindowHill", lw4 (List.mem_of_getElem? (i := 107) (by decide +kernel))⟩
theorem ml_X10_60 : MLk RX10 60 yX4_wordNumber := Or.inr ⟨"WindowHill", lw4 (List.mem_of_getElem? (i := 111) (by decide +kernel))⟩
theorem ml_X10_63 : MLk RX10 63 yX10_isStep := Or.inl (lw4 (List.mem_of_getElem? (i := 115) (by decide +kernel)))
theorem fl_X10_66 : FLk RX10 66 8 7 := ⟨(RX9, TX9, 8), rfl, by decide, cok_X9, Or.inr ⟨"WindowHill", lw2 (List.mem_of_getElem? (i := 12) (by decide +kernel))⟩⟩
theorem ml_X10_69 : MLk RX10 69 yX9_isBlock := Or.inr ⟨"WindowHill", lw4 (List.mem_of_getElem? (i := 118) (by decide +kernel))⟩
theorem fl_X10_72 : FLk RX10 72 8 0 := ⟨(RX9, TX9, 8), rfl, by decide, cok_X9, Or.inr ⟨"WindowHill", lw1 (List.mem_of_getElem? (i := 233) (by decide +kernel))⟩⟩
theorem ml_X10_75 : MLk RX10 75 yX10_takeFirst := Or.inl (lw4 (List.mem_of_getElem? (i := 126) (by decide +kernel)))
theorem ml_X10_79 : MLk RX10 79 yX10_takePlace := Or.inl (lw4 (List.mem_of_getElem? (i := 130) (by decide +kernel)))
theorem ml_X10_82 : MLk RX10 82 yX10_takeRuleName := Or.inl (lw4 (List.mem_of_getElem? (i := 133) (by decide +kernel)))
theorem ml_X10_85 : MLk RX10 85 yX10_takeTest := Or.inl (lw4 (List.mem_of_getElem? (i := 139) (by decide +kernel)))
theorem ml_X10_88 : MLk RX10 88 yX4_takeNumber := Or.inr ⟨"WindowHill", lw4 (List.mem_of_getElem? (i := 129) (by decide +kernel))⟩
theorem fl_X10_92 : FLk RX10 92 8 2 := ⟨(RX9, TX9, 8), rfl, by decide, cok_X9, Or.inr ⟨"WindowHill", lw1 (List.mem_of_getElem? (i := 239) (by decide +kernel))⟩⟩
theorem fl_X10_95 : FLk RX10 95 4 11 := ⟨(RX4, TX4, 14), rfl, by decide, cok_X4, Or.inr ⟨"WindowHill", lw1 (List.mem_of_getElem? (i := 117) (by decide +kernel))⟩⟩
theorem fl_X10_98 : FLk RX10 98 5 0 := ⟨(RX5, TX5, 16), rfl, by decide, cok_X5, Or.inr ⟨"WindowHill", lw2 (List.mem_of_getElem? (i := 37) (by decide +kernel))⟩⟩
theorem fl_X10_104 : FLk RX10 104 1 0 := ⟨(RX1, TX1, 10), rfl, by decide, cok_X1, Or.inr ⟨"WindowHill", lw1 (List.mem_of_getElem? (i := 171) (by decide +kernel))⟩⟩
theorem fl_X10_109 : FLk RX10 109 1 1 := ⟨(RX1, TX1, 10), rfl, by decide, cok_X1, Or.inr ⟨"WindowHill", lw1 (List.mem_of_getElem? (i := 178) (by decide +kernel))⟩⟩
theorem fl_X10_112 : FLk RX10 112 8 3 := ⟨(RX9, TX9, 8), rfl, by decide, cok_X9, Or.inr ⟨"WindowHill", lw2 (List.mem_of_getElem? (i := 2) (by decide +kernel))⟩⟩
theorem ml_X10_115 : MLk RX10 115 yX4_isName := Or.inr ⟨"WindowHill", lw4 (List.mem_of_getElem? (i := 136) (by decide +kernel))⟩
theorem ml_X10_118 : MLk RX10 118 yX4_name := Or.inr ⟨"WindowHill", lw4 (List.mem_of_getElem? (i := 137) (by decide +kernel))⟩
theorem ml_X10_122 : MLk RX10 122 yX5_ruleNamed := Or.inr ⟨"WindowHill", lw4 (List.mem_of_getElem? (i := 138) (by decide +kernel))⟩
theorem fl_X10_126 : FLk RX10 126 8 1 := ⟨(RX9, TX9, 8), rfl, by decide, cok_X9, Or.inr ⟨"WindowHill", lw1 (List.mem_of_getElem? (i := 236) (by decide +kernel))⟩⟩
theorem ml_X10_129 : MLk RX10 129 yX4_takeWord := Or.inr ⟨"WindowHill", lw4 (List.mem_of_getElem? (i := 142) (by decide +kernel))⟩
theorem ml_X10_132 : MLk RX10 132 yX4_isSign := Or.inr ⟨"WindowHill", lw4 (List.mem_of_getElem? (i := 143) (by decide +kernel))⟩
theorem ml_X10_135 : MLk RX10 135 yX4_value := Or.inr ⟨"WindowHill", lw4 (List.mem_of_getElem? (i := 144) (by decide +kernel))⟩
theorem kl_L_7 : Cond.classLink RL 7 "WindowHill" ∈ lw_tbl := lw1 (List.mem_of_getElem? (i := 22) (by decide +kernel))
theorem ml_L_9 : MLk RL 9 yX11_init := Or.inl (lw1 (List.mem_of_getElem? (i := 24) (by decide +kernel)))
theorem kl_L_10 : Cond.classLink RL 10 "WindowHillModel" ∈ lw_tbl := lw6 (List.mem_of_getElem? (i := 173) (by decide +kernel))
theorem ml_L_12 : MLk RL 12 yX12_init := Or.inl (lw6 (List.mem_of_getElem? (i := 175) (by decide +kernel)))
theorem ml_L_13 : MLk RL 13 yX11_status := Or.inl (lw3 (List.mem_of_getElem? (i := 84) (by decide +kernel)))
theorem ml_L_17 : MLk RL 17 yX12_status := Or.inl (lw7 (List.mem_of_getElem? (i := 61) (by decide +kernel)))
theorem ml_L_18 : MLk RL 18 yX11_top := Or.inl (lw3 (List.mem_of_getElem? (i := 88) (by decide +kernel)))
theorem ml_L_22 : MLk RL 22 yX12_top := Or.inl (lw7 (List.mem_of_getElem? (i := 65) (by decide +kernel)))
theorem ml_L_23 : MLk RL 23 yX11_bottom := Or.inl (lw3 (List.mem_of_getElem? (i := 92) (by decide +kernel)))
theorem ml_L_26 : MLk RL 26 yX12_bottom := Or.inl (lw7 (List.mem_of_getElem? (i := 69) (by decide +kernel)))
theorem ml_L_27 : MLk RL 27 yX11_tray := Or.inl (lw3 (List.mem_of_getElem? (i := 96) (by decide +kernel)))
theorem ml_L_31 : MLk RL 31 yX12_tray := Or.inl (lw7 (List.mem_of_getElem? (i := 73) (by decide +kernel)))
theorem kc_L_32 : Cond.constantLong RL 32 (4294967295) ∈ lw_tbl := lw9 (List.mem_of_getElem? (i := 150) (by decide +kernel))
theorem ml_L_34 : MLk RL 34 yX11_write := Or.inl (lw3 (List.mem_of_getElem? (i := 115) (by decide +kernel)))
theorem ml_L_38 : MLk RL 38 yX12_write := Or.inl (lw7 (List.mem_of_getElem? (i := 84) (by decide +kernel)))
theorem ml_L_39 : MLk RL 39 yX11_read := Or.inl (lw3 (List.mem_of_getElem? (i := 138) (by decide +kernel)))
theorem ml_L_43 : MLk RL 43 yX12_read := Or.inl (lw7 (List.mem_of_getElem? (i := 95) (by decide +kernel)))
theorem ml_L_44 : MLk RL 44 yX11_pour := Or.inl (lw3 (List.mem_of_getElem? (i := 150) (by decide +kernel)))
theorem ml_L_48 : MLk RL 48 yX12_pour := Or.inl (lw7 (List.mem_of_getElem? (i := 100) (by decide +kernel)))
theorem ml_L_49 : MLk RL 49 yX11_feed := Or.inl (lw3 (List.mem_of_getElem? (i := 165) (by decide +kernel)))
theorem ml_L_53 : MLk RL 53 yX12_feed := Or.inl (lw7 (List.mem_of_getElem? (i := 104) (by decide +kernel)))
theorem ml_L_54 : MLk RL 54 yX11_town := Or.inl (lw3 (List.mem_of_getElem? (i := 177) (by decide +kernel)))
theorem ml_L_58 : MLk RL 58 yX12_town := Or.inl (lw7 (List.mem_of_getElem? (i := 116) (by decide +kernel)))
theorem ml_L_59 : MLk RL 59 yX11_year := Or.inl (lw4 (List.mem_of_getElem? (i := 78) (by decide +kernel)))
theorem ml_L_62 : MLk RL 62 yX12_year := Or.inl (lw7 (List.mem_of_getElem? (i := 229) (by decide +kernel)))
theorem ml_L_63 : MLk RL 63 yX11_fault := Or.inl (lw4 (List.mem_of_getElem? (i := 151) (by decide +kernel)))
theorem ml_L_66 : MLk RL 66 yX12_fault := Or.inl (lw7 (List.mem_of_getElem? (i := 112) (by decide +kernel)))
theorem ml_L_67 : MLk RL 67 yX11_told := Or.inl (lw4 (List.mem_of_getElem? (i := 155) (by decide +kernel)))
theorem ml_L_70 : MLk RL 70 yX12_told := Or.inl (lw8 (List.mem_of_getElem? (i := 13) (by decide +kernel)))
theorem ml_L_71 : MLk RL 71 yX11_picture := Or.inl (lw4 (List.mem_of_getElem? (i := 159) (by decide +kernel)))
theorem ml_L_74 : MLk RL 74 yX12_picture := Or.inl (lw8 (List.mem_of_getElem? (i := 21) (by decide +kernel)))
theorem ml_L_75 : MLk RL 75 yX11_lamp := Or.inl (lw4 (List.mem_of_getElem? (i := 163) (by decide +kernel)))
theorem ml_L_79 : MLk RL 79 yX12_lamp := Or.inl (lw8 (List.mem_of_getElem? (i := 29) (by decide +kernel)))
theorem ml_L_80 : MLk RL 80 yX11_rule := Or.inl (lw4 (List.mem_of_getElem? (i := 179) (by decide +kernel)))
theorem ml_L_84 : MLk RL 84 yX12_rule := Or.inl (lw8 (List.mem_of_getElem? (i := 53) (by decide +kernel)))
theorem ml_L_85 : MLk RL 85 yX11_citizen := Or.inl (lw4 (List.mem_of_getElem? (i := 187) (by decide +kernel)))
theorem ml_L_88 : MLk RL 88 yX12_citizen := Or.inl (lw8 (List.mem_of_getElem? (i := 61) (by decide +kernel)))
theorem ml_L_89 : MLk RL 89 yX11_turn := Or.inl (lw4 (List.mem_of_getElem? (i := 195) (by decide +kernel)))
theorem ml_L_92 : MLk RL 92 yX12_turn := Or.inl (lw8 (List.mem_of_getElem? (i := 69) (by decide +kernel)))
theorem ml_L_93 : MLk RL 93 yX11_paint := Or.inl (lw4 (List.mem_of_getElem? (i := 203) (by decide +kernel)))
theorem ml_L_97 : MLk RL 97 yX12_paint := Or.inl (lw8 (List.mem_of_getElem? (i := 77) (by decide +kernel)))
theorem ml_L_98 : MLk RL 98 yX11_paintRows := Or.inl (lw4 (List.mem_of_getElem? (i := 216) (by decide +kernel)))
theorem ml_L_101 : MLk RL 101 yX12_paintRows := Or.inl (lw8 (List.mem_of_getElem? (i := 93) (by decide +kernel)))
theorem ml_L_102 : MLk RL 102 yX11_copyRows := Or.inl (lw4 (List.mem_of_getElem? (i := 225) (by decide +kernel)))
theorem ml_L_105 : MLk RL 105 yX12_copyRows := Or.inl (lw8 (List.mem_of_getElem? (i := 98) (by decide +kernel)))
theorem ml_L_106 : MLk RL 106 yX11_mayor := Or.inl (lw4 (List.mem_of_getElem? (i := 234) (by decide +kernel)))
theorem ml_L_110 : MLk RL 110 yX12_mayor := Or.inl (lw8 (List.mem_of_getElem? (i := 106) (by decide +kernel)))
theorem ml_L_111 : MLk RL 111 yX11_bend := Or.inl (lw4 (List.mem_of_getElem? (i := 238) (by decide +kernel)))
theorem ml_L_114 : MLk RL 114 yX12_bend := Or.inl (lw8 (List.mem_of_getElem? (i := 110) (by decide +kernel)))
theorem ml_L_115 : MLk RL 115 yX11_night := Or.inl (lw5 (List.mem_of_getElem? (i := 2) (by decide +kernel)))
theorem ml_L_118 : MLk RL 118 yX12_night := Or.inl (lw8 (List.mem_of_getElem? (i := 114) (by decide +kernel)))
theorem ml_L_119 : MLk RL 119 yX11_ahead := Or.inl (lw5 (List.mem_of_getElem? (i := 26) (by decide +kernel)))
theorem ml_L_123 : MLk RL 123 yX12_ahead := Or.inl (lw8 (List.mem_of_getElem? (i := 131) (by decide +kernel)))
theorem ml_L_124 : MLk RL 124 yX11_again := Or.inl (lw5 (List.mem_of_getElem? (i := 34) (by decide +kernel)))
theorem ml_L_127 : MLk RL 127 yX12_again := Or.inl (lw8 (List.mem_of_getElem? (i := 139) (by decide +kernel)))
theorem ml_L_128 : MLk RL 128 yX11_far := Or.inl (lw5 (List.mem_of_getElem? (i := 51) (by decide +kernel)))
theorem ml_L_131 : MLk RL 131 yX12_far := Or.inl (lw8 (List.mem_of_getElem? (i := 147) (by decide +kernel)))
theorem ml_L_132 : MLk RL 132 yX11_walks := Or.inl (lw5 (List.mem_of_getElem? (i := 60) (by decide +kernel)))
theorem ml_L_135 : MLk RL 135 yX12_walks := Or.inl (lw8 (List.mem_of_getElem? (i := 152) (by decide +kernel)))
theorem ml_L_136 : MLk RL 136 yX11_still := Or.inl (lw5 (List.mem_of_getElem? (i := 73) (by decide +kernel)))
theorem ml_L_139 : MLk RL 139 yX12_still := Or.inl (lw8 (List.mem_of_getElem? (i := 160) (by decide +kernel)))
theorem ml_L_140 : MLk RL 140 yX11_next := Or.inl (lw5 (List.mem_of_getElem? (i := 81) (by decide +kernel)))
theorem ml_L_143 : MLk RL 143 yX12_next := Or.inl (lw8 (List.mem_of_getElem? (i := 168) (by decide +kernel)))
theorem ml_L_144 : MLk RL 144 yX11_oil := Or.inl (lw5 (List.mem_of_getElem? (i := 86) (by decide +kernel)))
theorem ml_L_147 : MLk RL 147 yX12_oil := Or.inl (lw8 (List.mem_of_getElem? (i := 172) (by decide +kernel)))
theorem ml_L_148 : MLk RL 148 yX11_brightest := Or.inl (lw5 (List.mem_of_getElem? (i := 90) (by decide +kernel)))
theorem ml_L_151 : MLk RL 151 yX12_brightest := Or.inl (lw8 (List.mem_of_getElem? (i := 177) (by decide +kernel)))
theorem ml_L_152 : MLk RL 152 yX11_ancestors := Or.inl (lw5 (List.mem_of_getElem? (i := 97) (by decide +kernel)))
theorem ml_L_155 : MLk RL 155 yX12_ancestors := Or.inl (lw8 (List.mem_of_getElem? (i := 182) (by decide +kernel)))
theorem ml_L_156 : MLk RL 156 yX11_ancestor := Or.inl (lw5 (List.mem_of_getElem? (i := 130) (by decide +kernel)))
theorem ml_L_159 : MLk RL 159 yX12_ancestor := Or.inl (lw8 (List.mem_of_getElem? (i := 202) (by decide +kernel)))
theorem ml_L_160 : MLk RL 160 yX11_stills := Or.inl (lw5 (List.mem_of_getElem? (i := 142) (by decide +kernel)))
theorem ml_L_163 : MLk RL 163 yX12_stills := Or.inl (lw8 (List.mem_of_getElem? (i := 214) (by decide +kernel)))
theorem ml_L_164 : MLk RL 164 yX11_firstStill := Or.inl (lw5 (List.mem_of_getElem? (i := 146) (by decide +kernel)))
theorem ml_L_167 : MLk RL 167 yX12_firstStill := Or.inl (lw8 (List.mem_of_getElem? (i := 218) (by decide +kernel)))
theorem ml_L_168 : MLk RL 168 yX11_pictures := Or.inl (lw5 (List.mem_of_getElem? (i := 150) (by decide +kernel)))
theorem ml_L_171 : MLk RL 171 yX12_pictures := Or.inl (lw8 (List.mem_of_getElem? (i := 222) (by decide +kernel)))
theorem ml_L_172 : MLk RL 172 yX11_signal := Or.inl (lw5 (List.mem_of_getElem? (i := 154) (by decide +kernel)))
theorem ml_L_176 : MLk RL 176 yX12_signal := Or.inl (lw8 (List.mem_of_getElem? (i := 226) (by decide +kernel)))
theorem ml_L_177 : MLk RL 177 yX11_spoils := Or.inl (lw5 (List.mem_of_getElem? (i := 193) (by decide +kernel)))
theorem ml_L_180 : MLk RL 180 yX12_spoils := Or.inl (lw8 (List.mem_of_getElem? (i := 235) (by decide +kernel)))
theorem ml_L_181 : MLk RL 181 yX11_worst := Or.inl (lw5 (List.mem_of_getElem? (i := 201) (by decide +kernel)))
theorem ml_L_184 : MLk RL 184 yX12_worst := Or.inl (lw9 (List.mem_of_getElem? (i := 3) (by decide +kernel)))
theorem ml_L_185 : MLk RL 185 yX11_mend := Or.inl (lw5 (List.mem_of_getElem? (i := 210) (by decide +kernel)))
theorem ml_L_189 : MLk RL 189 yX12_mend := Or.inl (lw9 (List.mem_of_getElem? (i := 7) (by decide +kernel)))
theorem ml_L_190 : MLk RL 190 yX11_unlike := Or.inl (lw5 (List.mem_of_getElem? (i := 228) (by decide +kernel)))
theorem ml_L_193 : MLk RL 193 yX12_unlike := Or.inl (lw9 (List.mem_of_getElem? (i := 15) (by decide +kernel)))
theorem ml_L_194 : MLk RL 194 yX11_seen := Or.inl (lw5 (List.mem_of_getElem? (i := 233) (by decide +kernel)))
theorem ml_L_197 : MLk RL 197 yX12_seen := Or.inl (lw9 (List.mem_of_getElem? (i := 19) (by decide +kernel)))
theorem ml_L_198 : MLk RL 198 yX11_rulesLeft := Or.inl (lw5 (List.mem_of_getElem? (i := 237) (by decide +kernel)))
theorem ml_L_201 : MLk RL 201 yX12_rulesLeft := Or.inl (lw9 (List.mem_of_getElem? (i := 24) (by decide +kernel)))
theorem ml_L_202 : MLk RL 202 yX11_fits := Or.inl (lw6 (List.mem_of_getElem? (i := 5) (by decide +kernel)))
theorem ml_L_205 : MLk RL 205 yX12_fits := Or.inl (lw9 (List.mem_of_getElem? (i := 28) (by decide +kernel)))
theorem ml_L_206 : MLk RL 206 yX11_forget := Or.inl (lw6 (List.mem_of_getElem? (i := 13) (by decide +kernel)))
theorem ml_L_209 : MLk RL 209 yX12_forget := Or.inl (lw9 (List.mem_of_getElem? (i := 32) (by decide +kernel)))
theorem ml_L_210 : MLk RL 210 yX11_shows := Or.inl (lw6 (List.mem_of_getElem? (i := 21) (by decide +kernel)))
theorem ml_L_213 : MLk RL 213 yX12_shows := Or.inl (lw9 (List.mem_of_getElem? (i := 36) (by decide +kernel)))
theorem ml_L_214 : MLk RL 214 yX11_vote := Or.inl (lw6 (List.mem_of_getElem? (i := 30) (by decide +kernel)))
theorem ml_L_217 : MLk RL 217 yX12_vote := Or.inl (lw9 (List.mem_of_getElem? (i := 40) (by decide +kernel)))
theorem ml_L_218 : MLk RL 218 yX11_votes := Or.inl (lw6 (List.mem_of_getElem? (i := 43) (by decide +kernel)))
theorem ml_L_221 : MLk RL 221 yX12_votes := Or.inl (lw9 (List.mem_of_getElem? (i := 52) (by decide +kernel)))
theorem ml_L_222 : MLk RL 222 yX11_elect := Or.inl (lw6 (List.mem_of_getElem? (i := 52) (by decide +kernel)))
theorem ml_L_225 : MLk RL 225 yX12_elect := Or.inl (lw9 (List.mem_of_getElem? (i := 60) (by decide +kernel)))
theorem ml_L_226 : MLk RL 226 yX11_reads := Or.inl (lw6 (List.mem_of_getElem? (i := 62) (by decide +kernel)))
theorem ml_L_229 : MLk RL 229 yX12_reads := Or.inl (lw9 (List.mem_of_getElem? (i := 68) (by decide +kernel)))
theorem ml_L_230 : MLk RL 230 yX11_mirror := Or.inl (lw6 (List.mem_of_getElem? (i := 70) (by decide +kernel)))
theorem ml_L_233 : MLk RL 233 yX12_mirror := Or.inl (lw9 (List.mem_of_getElem? (i := 72) (by decide +kernel)))
theorem ml_L_234 : MLk RL 234 yX11_heaps := Or.inl (lw6 (List.mem_of_getElem? (i := 79) (by decide +kernel)))
theorem ml_L_237 : MLk RL 237 yX12_heaps := Or.inl (lw9 (List.mem_of_getElem? (i := 76) (by decide +kernel)))
theorem ml_L_238 : MLk RL 238 yX11_heap := Or.inl (lw6 (List.mem_of_getElem? (i := 88) (by decide +kernel)))
theorem ml_L_241 : MLk RL 241 yX12_heap := Or.inl (lw9 (List.mem_of_getElem? (i := 84) (by decide +kernel)))
theorem ml_L_242 : MLk RL 242 yX11_company := Or.inl (lw6 (List.mem_of_getElem? (i := 92) (by decide +kernel)))
theorem ml_L_246 : MLk RL 246 yX12_company := Or.inl (lw9 (List.mem_of_getElem? (i := 88) (by decide +kernel)))
theorem ml_L_247 : MLk RL 247 yX11_live := Or.inl (lw6 (List.mem_of_getElem? (i := 104) (by decide +kernel)))
theorem ml_L_250 : MLk RL 250 yX12_live := Or.inl (lw9 (List.mem_of_getElem? (i := 96) (by decide +kernel)))
theorem ml_L_251 : MLk RL 251 yX11_lived := Or.inl (lw6 (List.mem_of_getElem? (i := 147) (by decide +kernel)))
theorem ml_L_254 : MLk RL 254 yX12_lived := Or.inl (lw9 (List.mem_of_getElem? (i := 129) (by decide +kernel)))
theorem ml_L_255 : MLk RL 255 yX11_mean := Or.inl (lw6 (List.mem_of_getElem? (i := 151) (by decide +kernel)))
theorem ml_L_259 : MLk RL 259 yX12_mean := Or.inl (lw9 (List.mem_of_getElem? (i := 133) (by decide +kernel)))
theorem ml_L_260 : MLk RL 260 yX11_mark := Or.inl (lw6 (List.mem_of_getElem? (i := 165) (by decide +kernel)))
theorem ml_L_263 : MLk RL 263 yX12_mark := Or.inl (lw9 (List.mem_of_getElem? (i := 138) (by decide +kernel)))
theorem ml_L_264 : MLk RL 264 yX11_back := Or.inl (lw6 (List.mem_of_getElem? (i := 169) (by decide +kernel)))
theorem ml_L_267 : MLk RL 267 yX12_back := Or.inl (lw9 (List.mem_of_getElem? (i := 146) (by decide +kernel)))
theorem kc_J6_265 : Cond.constant RJ6 265 (1431655765) ∈ lw_tbl := lw4 (List.mem_of_getElem? (i := 71) (by decide +kernel))
theorem kc_J6_266 : Cond.constant RJ6 266 (858993459) ∈ lw_tbl := lw4 (List.mem_of_getElem? (i := 72) (by decide +kernel))
theorem kc_J6_267 : Cond.constant RJ6 267 (252645135) ∈ lw_tbl := lw4 (List.mem_of_getElem? (i := 73) (by decide +kernel))
theorem oi_in : Cond.instanceMethod Lib.objectInit ∈ lw_tbl := lw1 (List.mem_of_getElem? (i := 28) (by decide +kernel))
theorem oi_co : Cond.code Lib.objectInit ⟨#[0xb1]⟩ 1 none ∈ lw_tbl := lw1 (List.mem_of_getElem? (i := 29) (by decide +kernel))
theorem max_ok : MaxW Lib.Math.max.name Lib.Math.max.code := ⟨lw5 (List.mem_of_getElem? (i := 95) (by decide +kernel)), lw1 (List.mem_of_getElem? (i := 18) (by decide +kernel)), lw5 (List.mem_of_getElem? (i := 96) (by decide +kernel))⟩
theorem min_ok : MaxW Lib.Math.min.name Lib.Math.min.code := ⟨lw3 (List.mem_of_getElem? (i := 186) (by decide +kernel)), lw1 (List.mem_of_getElem? (i := 18) (by decide +kernel)), lw3 (List.mem_of_getElem? (i := 187) (by decide +kernel))⟩
theorem copy_ok : CopyW := ⟨lw3 (List.mem_of_getElem? (i := 164) (by decide +kernel)), lw3 (List.mem_of_getElem? (i := 163) (by decide +kernel)), lw1 (List.mem_of_getElem? (i := 17) (by decide +kernel))⟩
theorem ac_long : Cond.arrayClass .long ∈ lw_tbl := lw1 (List.mem_of_getElem? (i := 46) (by decide +kernel))
theorem ac_int : Cond.arrayClass .int ∈ lw_tbl := lw1 (List.mem_of_getElem? (i := 47) (by decide +kernel))
theorem ac_byte : Cond.arrayClass .byte ∈ lw_tbl := lw1 (List.mem_of_getElem? (i := 152) (by decide +kernel))
theorem ac_short : Cond.arrayClass .short ∈ lw_tbl := lw1 (List.mem_of_getElem? (i := 153) (by decide +kernel))
theorem ao_Town : Cond.arrayOver (.object "WindowHill$Town") ∈ lw_tbl := lw1 (List.mem_of_getElem? (i := 155) (by decide +kernel))
