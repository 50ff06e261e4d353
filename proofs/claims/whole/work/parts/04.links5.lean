set_option maxRecDepth 100000 in
theorem q_uw0_0 : ([0, 1, 2, 3, 4, 5, 6, 7, 8, 9, 10, 11, 12, 13] : List Nat).map (u_lay RX0 TX0) = ([(2, 24), (2, 26), (2, 28), (2, 30), (2, 32), (2, 34), (2, 36), (2, 38), (2, 40), (2, 42), (2, 44), (2, 46), (2, 48), (2, 50)] : List (Nat × Nat)).filterMap q_tb := by decide +kernel
theorem q_uw0 : ∀ w ∈ u_ws RX0 TX0 14, w ∈ lw_tbl := by
  intro w hw
  have hw : w ∈ ([0, 1, 2, 3, 4, 5, 6, 7, 8, 9, 10, 11, 12, 13] : List Nat).map (u_lay RX0 TX0) := hw
  rcases hw with hw
  · exact q_memT q_uw0_0 hw
set_option maxRecDepth 100000 in
theorem q_uw1_0 : ([0, 1, 2, 3, 4, 5, 6, 7, 8, 9, 10, 11, 12, 13, 14, 15, 16] : List Nat).map (u_lay RX1 TX1) = ([(2, 80), (2, 82), (2, 84), (2, 86), (2, 88), (2, 90), (2, 92), (2, 94), (2, 96), (2, 98), (2, 100), (2, 102), (2, 104), (2, 106), (2, 108), (2, 110), (2, 112)] : List (Nat × Nat)).filterMap q_tb := by decide +kernel
theorem q_uw1 : ∀ w ∈ u_ws RX1 TX1 17, w ∈ lw_tbl := by
  intro w hw
  have hw : w ∈ ([0, 1, 2, 3, 4, 5, 6, 7, 8, 9, 10, 11, 12, 13, 14, 15, 16] : List Nat).map (u_lay RX1 TX1) := hw
  rcases hw with hw
  · exact q_memT q_uw1_0 hw
set_option maxRecDepth 100000 in
theorem q_uw2_0 : ([0] : List Nat).map (u_lay RX2 TX2) = ([(2, 127)] : List (Nat × Nat)).filterMap q_tb := by decide +kernel
theorem q_uw2 : ∀ w ∈ u_ws RX2 TX2 1, w ∈ lw_tbl := by
  intro w hw
  have hw : w ∈ ([0] : List Nat).map (u_lay RX2 TX2) := hw
  rcases hw with hw
  · exact q_memT q_uw2_0 hw
set_option maxRecDepth 100000 in
theorem q_uw3_0 : ([0, 1, 2, 3, 4] : List Nat).map (u_lay RX3 TX3) = ([(2, 141), (2, 143), (2, 145), (2, 147), (2, 149)] : List (Nat × Nat)).filterMap q_tb := by decide +kernel
theorem q_uw3 : ∀ w ∈ u_ws RX3 TX3 5, w ∈ lw_tbl := by
  intro w hw
  have hw : w ∈ ([0, 1, 2, 3, 4] : List Nat).map (u_lay RX3 TX3) := hw
  rcases hw with hw
  · exact q_memT q_uw3_0 hw
set_option maxRecDepth 100000 in
theorem q_uw4_0 : ([0, 1, 2, 3, 4, 5, 6, 7, 8, 9, 10, 11, 12, 13, 14, 15] : List Nat).map (u_lay RX4 TX4) = ([(2, 175), (2, 177), (2, 179), (2, 181), (2, 183), (2, 185), (2, 187), (2, 189), (2, 191), (2, 193), (2, 195), (2, 197), (2, 199), (2, 201), (2, 203), (2, 205)] : List (Nat × Nat)).filterMap q_tb := by decide +kernel
theorem q_uw4 : ∀ w ∈ u_ws RX4 TX4 16, w ∈ lw_tbl := by
  intro w hw
  have hw : w ∈ ([0, 1, 2, 3, 4, 5, 6, 7, 8, 9, 10, 11, 12, 13, 14, 15] : List Nat).map (u_lay RX4 TX4) := hw
  rcases hw with hw
  · exact q_memT q_uw4_0 hw
set_option maxRecDepth 100000 in
theorem q_uw5_0 : ([0, 1, 2, 3, 4, 5, 6] : List Nat).map (u_lay RX5 TX5) = ([(2, 221), (2, 223), (2, 225), (2, 227), (2, 229), (2, 231), (2, 233)] : List (Nat × Nat)).filterMap q_tb := by decide +kernel
theorem q_uw5 : ∀ w ∈ u_ws RX5 TX5 7, w ∈ lw_tbl := by
  intro w hw
  have hw : w ∈ ([0, 1, 2, 3, 4, 5, 6] : List Nat).map (u_lay RX5 TX5) := hw
  rcases hw with hw
  · exact q_memT q_uw5_0 hw
set_option maxRecDepth 100000 in
theorem q_uw6_0 : ([0, 1, 2, 3, 4, 5, 6, 7, 8, 9, 10, 11, 12, 13, 14, 15, 16, 17, 18, 19] : List Nat).map (u_lay RX6 TX6) = ([(1, 201), (1, 203), (1, 205), (1, 207), (1, 209), (1, 211), (1, 213), (1, 215), (1, 217), (1, 219), (1, 221), (1, 223), (1, 225), (1, 227), (1, 229), (1, 231), (1, 233), (1, 235), (1, 237), (1, 239)] : List (Nat × Nat)).filterMap q_tb := by decide +kernel
theorem q_uw6 : ∀ w ∈ u_ws RX6 TX6 20, w ∈ lw_tbl := by
  intro w hw
  have hw : w ∈ ([0, 1, 2, 3, 4, 5, 6, 7, 8, 9, 10, 11, 12, 13, 14, 15, 16, 17, 18, 19] : List Nat).map (u_lay RX6 TX6) := hw
  rcases hw with hw
  · exact q_memT q_uw6_0 hw
set_option maxRecDepth 100000 in
theorem q_uw7_0 : ([0, 1, 2, 3, 4, 5, 6, 7, 8, 9, 10, 11, 12, 13] : List Nat).map (u_lay RX7 TX7) = ([(3, 16), (3, 18), (3, 20), (3, 22), (3, 24), (3, 26), (3, 28), (3, 30), (3, 32), (3, 34), (3, 36), (3, 38), (3, 40), (3, 42)] : List (Nat × Nat)).filterMap q_tb := by decide +kernel
theorem q_uw7 : ∀ w ∈ u_ws RX7 TX7 14, w ∈ lw_tbl := by
  intro w hw
  have hw : w ∈ ([0, 1, 2, 3, 4, 5, 6, 7, 8, 9, 10, 11, 12, 13] : List Nat).map (u_lay RX7 TX7) := hw
  rcases hw with hw
  · exact q_memT q_uw7_0 hw
set_option maxRecDepth 100000 in
theorem q_uw8_0 : ([0, 1, 2, 3, 4, 5, 6, 7, 8] : List Nat).map (u_lay RX8 TX8) = ([(1, 119), (1, 121), (1, 123), (1, 125), (1, 127), (1, 129), (1, 131), (1, 133), (1, 135)] : List (Nat × Nat)).filterMap q_tb := by decide +kernel
theorem q_uw8 : ∀ w ∈ u_ws RX8 TX8 9, w ∈ lw_tbl := by
  intro w hw
  have hw : w ∈ ([0, 1, 2, 3, 4, 5, 6, 7, 8] : List Nat).map (u_lay RX8 TX8) := hw
  rcases hw with hw
  · exact q_memT q_uw8_0 hw
set_option maxRecDepth 100000 in
theorem q_uw9_0 : ([0, 1, 2, 3, 4] : List Nat).map (u_lay RX9 TX9) = ([(1, 90), (1, 92), (1, 94), (1, 96), (1, 98)] : List (Nat × Nat)).filterMap q_tb := by decide +kernel
theorem q_uw9 : ∀ w ∈ u_ws RX9 TX9 5, w ∈ lw_tbl := by
  intro w hw
  have hw : w ∈ ([0, 1, 2, 3, 4] : List Nat).map (u_lay RX9 TX9) := hw
  rcases hw with hw
  · exact q_memT q_uw9_0 hw
set_option maxRecDepth 100000 in
theorem q_uw10_0 : ([0, 1, 2, 3, 4, 5, 6, 7, 8] : List Nat).map (u_lay RX10 TX10) = ([(3, 60), (3, 62), (3, 64), (3, 66), (3, 68), (3, 70), (3, 72), (3, 74), (3, 76)] : List (Nat × Nat)).filterMap q_tb := by decide +kernel
theorem q_uw10 : ∀ w ∈ u_ws RX10 TX10 9, w ∈ lw_tbl := by
  intro w hw
  have hw : w ∈ ([0, 1, 2, 3, 4, 5, 6, 7, 8] : List Nat).map (u_lay RX10 TX10) := hw
  rcases hw with hw
  · exact q_memT q_uw10_0 hw
set_option maxRecDepth 100000 in
theorem q_uw11_0 : ([0, 1, 2, 3, 4, 5, 6, 7, 8, 9, 10, 11, 12, 13, 14, 15, 16] : List Nat).map (u_lay RX11 TX11) = ([(3, 96), (3, 98), (3, 100), (3, 102), (3, 104), (3, 106), (3, 108), (3, 110), (3, 112), (3, 114), (3, 116), (3, 118), (3, 120), (3, 122), (3, 124), (3, 126), (3, 128)] : List (Nat × Nat)).filterMap q_tb := by decide +kernel
theorem q_uw11 : ∀ w ∈ u_ws RX11 TX11 17, w ∈ lw_tbl := by
  intro w hw
  have hw : w ∈ ([0, 1, 2, 3, 4, 5, 6, 7, 8, 9, 10, 11, 12, 13, 14, 15, 16] : List Nat).map (u_lay RX11 TX11) := hw
  rcases hw with hw
  · exact q_memT q_uw11_0 hw
set_option maxRecDepth 100000 in
theorem q_uw12_0 : ([0, 1, 2, 3, 4, 5, 6, 7, 8, 9, 10, 11, 12, 13, 14, 15, 16, 17, 18, 19, 20, 21, 22, 23, 24, 25, 26, 27, 28, 29] : List Nat).map (u_lay RX12 TX12) = ([(8, 80), (8, 82), (8, 84), (8, 86), (8, 88), (8, 90), (8, 92), (8, 94), (8, 96), (8, 98), (8, 100), (8, 102), (8, 104), (8, 106), (8, 108), (8, 110), (8, 112), (8, 114), (8, 116), (8, 118), (8, 120), (8, 122), (8, 124), (8, 126), (8, 128), (8, 130), (8, 132), (8, 134), (8, 136), (8, 138)] : List (Nat × Nat)).filterMap q_tb := by decide +kernel
set_option maxRecDepth 100000 in
theorem q_uw12_30 : ([30, 31, 32, 33, 34, 35, 36, 37, 38, 39, 40, 41, 42, 43, 44, 45, 46, 47, 48, 49, 50, 51, 52, 53, 54, 55, 56, 57, 58, 59] : List Nat).map (u_lay RX12 TX12) = ([(8, 140), (8, 142), (8, 144), (8, 146), (8, 148), (8, 150), (8, 152), (8, 154), (8, 156), (8, 158), (8, 160), (8, 162), (8, 164), (8, 166), (8, 168), (8, 170), (8, 172), (8, 174), (8, 176), (8, 178), (8, 180), (8, 182), (8, 184), (8, 186), (8, 188), (8, 190), (8, 192), (8, 194), (8, 196), (8, 198)] : List (Nat × Nat)).filterMap q_tb := by decide +kernel
set_option maxRecDepth 100000 in
theorem q_uw12_60 : ([60, 61, 62, 63, 64, 65, 66, 67, 68, 69, 70, 71, 72, 73, 74, 75, 76, 77, 78, 79, 80, 81, 82, 83, 84, 85, 86, 87, 88, 89] : List Nat).map (u_lay RX12 TX12) = ([(8, 200), (8, 202), (8, 204), (8, 206), (8, 208), (8, 210), (8, 212), (8, 214), (8, 216), (8, 218), (8, 220), (8, 222), (8, 224), (8, 226), (8, 228), (8, 230), (8, 232), (8, 234), (8, 236), (8, 238), (9, 0), (9, 2), (9, 4), (9, 6), (9, 8), (9, 10), (9, 12), (9, 14), (9, 16), (9, 18)] : List (Nat × Nat)).filterMap q_tb := by decide +kernel
set_option maxRecDepth 100000 in
theorem q_uw12_90 : ([90, 91, 92, 93, 94, 95, 96, 97, 98, 99, 100, 101, 102, 103, 104, 105, 106, 107, 108, 109, 110, 111, 112, 113, 114, 115, 116] : List Nat).map (u_lay RX12 TX12) = ([(9, 20), (9, 22), (9, 24), (9, 26), (9, 28), (9, 30), (9, 32), (9, 34), (9, 36), (9, 38), (9, 40), (9, 42), (9, 44), (9, 46), (9, 48), (9, 50), (9, 52), (9, 54), (9, 56), (9, 58), (9, 60), (9, 62), (9, 64), (9, 66), (9, 68), (9, 70), (9, 72)] : List (Nat × Nat)).filterMap q_tb := by decide +kernel
theorem q_uw12 : ∀ w ∈ u_ws RX12 TX12 117, w ∈ lw_tbl := by
  intro w hw
  have hw : w ∈ ([0, 1, 2, 3, 4, 5, 6, 7, 8, 9, 10, 11, 12, 13, 14, 15, 16, 17, 18, 19, 20, 21, 22, 23, 24, 25, 26, 27, 28, 29] : List Nat).map (u_lay RX12 TX12) ++ (([30, 31, 32, 33, 34, 35, 36, 37, 38, 39, 40, 41, 42, 43, 44, 45, 46, 47, 48, 49, 50, 51, 52, 53, 54, 55, 56, 57, 58, 59] : List Nat).map (u_lay RX12 TX12) ++ (([60, 61, 62, 63, 64, 65, 66, 67, 68, 69, 70, 71, 72, 73, 74, 75, 76, 77, 78, 79, 80, 81, 82, 83, 84, 85, 86, 87, 88, 89] : List Nat).map (u_lay RX12 TX12) ++ (([90, 91, 92, 93, 94, 95, 96, 97, 98, 99, 100, 101, 102, 103, 104, 105, 106, 107, 108, 109, 110, 111, 112, 113, 114, 115, 116] : List Nat).map (u_lay RX12 TX12)))) := hw
  simp only [List.mem_append] at hw
  rcases hw with hw | hw | hw | hw
  · exact q_memT q_uw12_0 hw
  · exact q_memT q_uw12_30 hw
  · exact q_memT q_uw12_60 hw
  · exact q_memT q_uw12_90 hw
