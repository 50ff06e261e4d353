def q_vs : List Nat := [1, 2, 3, 4, 5, 6, 7, 8, 9, 10, 11, 12, 13, 14, 15, 16, 17, 18, 19, 20, 21, 23, 24, 25, 26, 28, 29, 30, 31, 32, 33, 34, 35, 36, 37, 38, 39, 40, 41, 42, 43, 44, 45, 46, 48, 49, 50, 51, 52, 53, 54, 55, 56, 57, 58, 59, 61, 62, 63, 64, 65, 66, 67, 68, 69, 70, 71, 72, 73, 74, 75, 76, 77, 78, 79, 80, 82, 83, 84, 85, 86, 87, 88, 89, 91, 92, 93, 94, 95, 96, 97, 98, 99, 100, 101, 103, 104, 105, 106, 108, 109, 110, 111, 112, 113, 114, 115, 116, 118, 119, 120, 121, 122, 123, 124, 125, 127, 131, 132, 133, 134, 135, 136, 137, 139, 140, 141, 142, 143, 144, 145, 146, 147, 148, 149, 150, 151, 152, 153, 154, 155, 156, 157, 158, 159, 161, 162, 163, 164, 165, 166, 167, 168, 169, 170, 171, 172, 173, 174, 175, 176, 177, 178, 179, 180, 181, 182, 183, 184, 185, 187, 188, 189, 190, 191, 196, 197, 198, 199, 202, 204, 205, 207, 208, 209, 234, 235, 238, 240, 245, 246, 247, 248, 249, 250, 251, 252, 253, 254, 255, 256, 257, 258, 259, 262, 263, 264, 265, 266, 267, 268, 269, 270, 271, 273, 274, 275, 276, 277, 279, 280, 281, 282, 283, 284, 285, 286, 287, 288, 289, 291, 292, 293, 294, 295, 296, 297, 298, 299, 300, 304, 306, 307, 311, 312, 313, 314, 315, 316, 317, 318, 319, 320, 321, 324, 326, 327, 328, 329, 332, 333, 334, 336, 337, 338, 340, 341, 342, 344, 345, 353, 354, 355]
def q_selw (k : Nat) : Cond := Cond.selects (q_nm k).cls (q_nm k) (q_nm k)
set_option maxRecDepth 100000 in
theorem q_sw0 : ([1, 2, 3, 4, 5, 6, 7, 8, 9, 10, 11, 12, 13, 14, 15, 16, 17, 18, 19, 20, 21, 23, 24, 25, 26, 28, 29, 30, 31, 32, 33, 34, 35, 36, 37, 38, 39, 40, 41, 42, 43, 44, 45, 46, 48, 49, 50, 51, 52, 53, 54, 55, 56, 57, 58, 59, 61, 62, 63, 64] : List Nat).map q_selw = ([(4, 111), (5, 163), (5, 49), (6, 17), (6, 216), (5, 53), (5, 45), (5, 57), (2, 61), (7, 2), (4, 136), (4, 144), (5, 71), (5, 125), (5, 1), (6, 70), (6, 74), (5, 13), (5, 91), (7, 41), (5, 104), (4, 107), (5, 129), (22, 9), (22, 11), (22, 12), (23, 8), (22, 10), (22, 13), (22, 15), (22, 14), (23, 7), (23, 6), (23, 5), (23, 2), (23, 3), (23, 0), (23, 1), (23, 4), (23, 10), (23, 14), (23, 15), (24, 0), (24, 1), (24, 2), (23, 13), (23, 11), (23, 12), (24, 3), (24, 4), (24, 5), (24, 6), (24, 9), (24, 10), (24, 7), (24, 8), (2, 124), (6, 146), (6, 238), (5, 180)] : List (Nat × Nat)).filterMap q_tb := by decide +kernel
set_option maxRecDepth 100000 in
theorem q_sw1 : ([65, 66, 67, 68, 69, 70, 71, 72, 73, 74, 75, 76, 77, 78, 79, 80, 82, 83, 84, 85, 86, 87, 88, 89, 91, 92, 93, 94, 95, 96, 97, 98, 99, 100, 101, 103, 104, 105, 106, 108, 109, 110, 111, 112, 113, 114, 115, 116, 118, 119, 120, 121, 122, 123, 124, 125, 127, 131, 132, 133] : List Nat).map q_selw = ([(5, 176), (5, 233), (5, 194), (6, 1), (6, 5), (6, 9), (5, 220), (6, 175), (6, 179), (5, 203), (5, 207), (6, 56), (5, 167), (5, 186), (5, 211), (5, 224), (7, 174), (7, 15), (5, 139), (6, 142), (7, 93), (6, 206), (6, 230), (7, 110), (6, 21), (24, 12), (24, 13), (6, 43), (25, 4), (25, 5), (25, 6), (7, 88), (24, 14), (24, 15), (25, 0), (25, 1), (25, 2), (25, 3), (6, 65), (6, 167), (6, 157), (6, 188), (6, 193), (7, 80), (6, 116), (5, 147), (6, 128), (6, 124), (6, 136), (7, 75), (7, 84), (25, 7), (25, 8), (25, 9), (25, 10), (25, 11), (4, 164), (4, 180), (4, 230), (4, 214)] : List (Nat × Nat)).filterMap q_tb := by decide +kernel
set_option maxRecDepth 100000 in
theorem q_sw2 : ([134, 135, 136, 137, 139, 140, 141, 142, 143, 144, 145, 146, 147, 148, 149, 150, 151, 152, 153, 154, 155, 156, 157, 158, 159, 161, 162, 163, 164, 165, 166, 167, 168, 169, 170, 171, 172, 173, 174, 175, 176, 177, 178, 179, 180, 181, 182, 183, 184, 185, 187, 188, 189, 190, 191, 196, 197, 198, 199, 202] : List Nat).map q_selw = ([(4, 223), (23, 9), (5, 21), (5, 29), (5, 159), (7, 102), (7, 178), (7, 182), (5, 143), (6, 220), (7, 58), (7, 25), (25, 13), (25, 14), (25, 12), (26, 0), (26, 1), (25, 15), (26, 5), (26, 6), (26, 8), (26, 4), (26, 3), (26, 2), (26, 7), (4, 14), (4, 99), (5, 100), (5, 112), (4, 156), (4, 160), (21, 11), (21, 6), (21, 8), (21, 12), (21, 10), (21, 9), (21, 7), (21, 13), (21, 14), (21, 15), (22, 0), (22, 1), (22, 3), (22, 4), (22, 2), (22, 5), (22, 6), (22, 8), (22, 7), (3, 149), (4, 10), (4, 103), (4, 55), (21, 1), (21, 2), (21, 3), (21, 4), (21, 5), (7, 126)] : List (Nat × Nat)).filterMap q_tb := by decide +kernel
set_option maxRecDepth 100000 in
theorem q_sw3 : ([204, 205, 207, 208, 209, 234, 235, 238, 240, 245, 246, 247, 248, 249, 250, 251, 252, 253, 254, 255, 256, 257, 258, 259, 262, 263, 264, 265, 266, 267, 268, 269, 270, 271, 273, 274, 275, 276, 277, 279, 280, 281, 282, 283, 284, 285, 286, 287, 288, 289, 291, 292, 293, 294, 295, 296, 297, 298, 299, 300] : List Nat).map q_selw = ([(26, 9), (26, 10), (26, 11), (26, 12), (26, 13), (21, 0), (24, 11), (26, 15), (27, 1), (27, 2), (27, 0), (27, 3), (27, 4), (27, 5), (27, 8), (27, 10), (27, 7), (27, 9), (28, 8), (27, 11), (28, 4), (28, 1), (28, 0), (29, 2), (27, 6), (27, 12), (27, 14), (27, 13), (27, 15), (28, 3), (28, 2), (28, 5), (28, 6), (29, 0), (28, 13), (28, 14), (28, 15), (29, 1), (28, 10), (28, 11), (28, 7), (28, 12), (28, 9), (29, 5), (29, 7), (29, 6), (29, 3), (29, 4), (29, 8), (29, 9), (26, 14), (31, 0), (31, 4), (29, 13), (30, 1), (31, 2), (29, 12), (29, 10), (29, 11), (29, 14)] : List (Nat × Nat)).filterMap q_tb := by decide +kernel
set_option maxRecDepth 100000 in
theorem q_sw4 : ([304, 306, 307, 311, 312, 313, 314, 315, 316, 317, 318, 319, 320, 321, 324, 326, 327, 328, 329, 332, 333, 334, 336, 337, 338, 340, 341, 342, 344, 345, 353, 354, 355] : List Nat).map q_selw = ([(29, 15), (30, 0), (30, 2), (30, 10), (30, 9), (30, 7), (30, 6), (30, 8), (30, 11), (30, 12), (30, 4), (30, 13), (30, 5), (30, 3), (30, 14), (31, 1), (31, 3), (30, 15), (31, 13), (31, 6), (31, 7), (31, 5), (31, 9), (31, 12), (31, 8), (31, 14), (31, 10), (31, 11), (32, 0), (31, 15), (1, 39), (1, 49), (3, 193)] : List (Nat × Nat)).filterMap q_tb := by decide +kernel
set_option maxRecDepth 100000 in
theorem q_sel_ok : ∀ k ∈ q_vs, q_selw k ∈ lw_tbl := by
  intro k h
  have h : k ∈ ([1, 2, 3, 4, 5, 6, 7, 8, 9, 10, 11, 12, 13, 14, 15, 16, 17, 18, 19, 20, 21, 23, 24, 25, 26, 28, 29, 30, 31, 32, 33, 34, 35, 36, 37, 38, 39, 40, 41, 42, 43, 44, 45, 46, 48, 49, 50, 51, 52, 53, 54, 55, 56, 57, 58, 59, 61, 62, 63, 64] : List Nat) ++ (([65, 66, 67, 68, 69, 70, 71, 72, 73, 74, 75, 76, 77, 78, 79, 80, 82, 83, 84, 85, 86, 87, 88, 89, 91, 92, 93, 94, 95, 96, 97, 98, 99, 100, 101, 103, 104, 105, 106, 108, 109, 110, 111, 112, 113, 114, 115, 116, 118, 119, 120, 121, 122, 123, 124, 125, 127, 131, 132, 133] : List Nat) ++ (([134, 135, 136, 137, 139, 140, 141, 142, 143, 144, 145, 146, 147, 148, 149, 150, 151, 152, 153, 154, 155, 156, 157, 158, 159, 161, 162, 163, 164, 165, 166, 167, 168, 169, 170, 171, 172, 173, 174, 175, 176, 177, 178, 179, 180, 181, 182, 183, 184, 185, 187, 188, 189, 190, 191, 196, 197, 198, 199, 202] : List Nat) ++ (([204, 205, 207, 208, 209, 234, 235, 238, 240, 245, 246, 247, 248, 249, 250, 251, 252, 253, 254, 255, 256, 257, 258, 259, 262, 263, 264, 265, 266, 267, 268, 269, 270, 271, 273, 274, 275, 276, 277, 279, 280, 281, 282, 283, 284, 285, 286, 287, 288, 289, 291, 292, 293, 294, 295, 296, 297, 298, 299, 300] : List Nat) ++ (([304, 306, 307, 311, 312, 313, 314, 315, 316, 317, 318, 319, 320, 321, 324, 326, 327, 328, 329, 332, 333, 334, 336, 337, 338, 340, 341, 342, 344, 345, 353, 354, 355] : List Nat))))) := h
  simp only [List.mem_append] at h
  rcases h with h | h | h | h | h
  · exact q_memT q_sw0 (List.mem_map_of_mem h)
  · exact q_memT q_sw1 (List.mem_map_of_mem h)
  · exact q_memT q_sw2 (List.mem_map_of_mem h)
  · exact q_memT q_sw3 (List.mem_map_of_mem h)
  · exact q_memT q_sw4 (List.mem_map_of_mem h)
theorem q_vTs : ∀ own, own < 13 → ((q_vT own).all (fun e => q_vs.contains e.2 && !(q_m e.2).2.2.2.2.2.2.1)) = true := by decide +kernel
theorem q_sTs : ∀ own, own < 13 → ((q_sT own).all (fun e => (q_m e.2).2.2.2.2.2.2.1) && (q_nT own).all (fun e => (q_m e.2).2.2.2.2.2.2.1 || decide (e.2 = 126))) = true := by decide +kernel
theorem q_iTs : ∀ own, own < 13 → ((q_iT own).all (fun e => decide ((q_m e.2).1.name = "<init>") && !(q_m e.2).2.2.2.2.2.2.1 && decide ((q_m e.2).2.2.2.1 = none))) = true := by decide +kernel
set_option maxRecDepth 100000 in
theorem q_inw : (List.range 16).map (fun c => Cond.initialized (q_cn c)) = ([(1, 8), (1, 10), (1, 11), (1, 12), (1, 13), (1, 14), (1, 9), (1, 15), (1, 7), (1, 2), (1, 16), (1, 1), (1, 17), (1, 18), (1, 20), (1, 3)] : List (Nat × Nat)).filterMap q_tb := by decide +kernel
theorem q_in_ok {c : Nat} (h : c < 16) : Cond.initialized (q_cn c) ∈ lw_tbl := q_memT q_inw (List.mem_map_of_mem (f := fun c => Cond.initialized (q_cn c)) (List.mem_range.mpr h))
theorem q_plain : ∀ c, c < 16 → q_cn c ≠ "java/lang/invoke/MethodHandle" ∧ q_cn c ≠ "java/lang/invoke/VarHandle" := by decide +kernel
set_option maxRecDepth 100000 in
theorem q_pf0 : q_mt0.all (fun q => plainFor q.1) = true := by decide +kernel
set_option maxRecDepth 100000 in
theorem q_pf1 : q_mt1.all (fun q => plainFor q.1) = true := by decide +kernel
set_option maxRecDepth 100000 in
theorem q_pf2 : q_mt2.all (fun q => plainFor q.1) = true := by decide +kernel
set_option maxRecDepth 100000 in
theorem q_pf3 : q_mt3.all (fun q => plainFor q.1) = true := by decide +kernel
set_option maxRecDepth 100000 in
theorem q_pf4 : q_mt4.all (fun q => plainFor q.1) = true := by decide +kernel
set_option maxRecDepth 100000 in
theorem q_pf5 : q_mt5.all (fun q => plainFor q.1) = true := by decide +kernel
set_option maxRecDepth 100000 in
theorem q_pf6 : q_mt6.all (fun q => plainFor q.1) = true := by decide +kernel
set_option maxRecDepth 100000 in
theorem q_pf7 : q_mt7.all (fun q => plainFor q.1) = true := by decide +kernel
set_option maxRecDepth 100000 in
theorem q_pf8 : q_mt8.all (fun q => plainFor q.1) = true := by decide +kernel
set_option maxRecDepth 100000 in
theorem q_pf9 : q_mt9.all (fun q => plainFor q.1) = true := by decide +kernel
set_option maxRecDepth 100000 in
theorem q_pf10 : q_mt10.all (fun q => plainFor q.1) = true := by decide +kernel
set_option maxRecDepth 100000 in
theorem q_pf11 : q_mt11.all (fun q => plainFor q.1) = true := by decide +kernel
set_option maxRecDepth 100000 in
theorem q_pf12 : q_mt12.all (fun q => plainFor q.1) = true := by decide +kernel
set_option maxRecDepth 100000 in
theorem q_pf13 : q_mt13.all (fun q => plainFor q.1) = true := by decide +kernel
set_option maxRecDepth 100000 in
theorem q_pf14 : q_mt14.all (fun q => plainFor q.1) = true := by decide +kernel
set_option maxRecDepth 100000 in
theorem q_pf15 : q_MS.all (fun q => plainFor q.1) = true := by decide +kernel
theorem q_pfA : ∀ q ∈ q_MA, plainFor q.1 = true := by
  intro q h
  unfold q_MA q_MT at h
  simp only [List.mem_append] at h
  rcases h with (h | h | h | h | h | h | h | h | h | h | h | h | h | h | h) | h
  · exact List.all_eq_true.mp q_pf0 q h
  · exact List.all_eq_true.mp q_pf1 q h
  · exact List.all_eq_true.mp q_pf2 q h
  · exact List.all_eq_true.mp q_pf3 q h
  · exact List.all_eq_true.mp q_pf4 q h
  · exact List.all_eq_true.mp q_pf5 q h
  · exact List.all_eq_true.mp q_pf6 q h
  · exact List.all_eq_true.mp q_pf7 q h
  · exact List.all_eq_true.mp q_pf8 q h
  · exact List.all_eq_true.mp q_pf9 q h
  · exact List.all_eq_true.mp q_pf10 q h
  · exact List.all_eq_true.mp q_pf11 q h
  · exact List.all_eq_true.mp q_pf12 q h
  · exact List.all_eq_true.mp q_pf13 q h
  · exact List.all_eq_true.mp q_pf14 q h
  · exact List.all_eq_true.mp q_pf15 q h
def q_oT : List (Nat × Nat) := [(11, 1), (9, 3), (8, 3), (0, 3), (6, 7), (1, 5), (2, 5), (3, 3), (4, 3), (5, 1), (7, 7), (10, 5), (12, 7)]
set_option maxRecDepth 100000 in
theorem q_oTw : q_oT.map (fun e => Cond.methodLink (q_cn e.1) e.2 objectInit) = ([(1, 27), (1, 35), (1, 109), (1, 143), (1, 150), (2, 58), (2, 121), (2, 135), (2, 157), (2, 213), (3, 1), (3, 50), (7, 189)] : List (Nat × Nat)).filterMap q_tb := by decide +kernel
set_option maxRecDepth 100000 in
theorem q_o1 : Cond.instanceMethod objectInit ∈ lw_tbl := q_tb_mem (e := (1, 28)) (by decide +kernel)
set_option maxRecDepth 100000 in
theorem q_o2 : Cond.code objectInit ⟨#[0xb1]⟩ 1 none ∈ lw_tbl := q_tb_mem (e := (1, 29)) (by rfl)
set_option maxRecDepth 100000 in
theorem q_ac1 : Cond.methodLink (q_cn 2) 18 arraycopyName ∈ lw_tbl := q_tb_mem (e := (6, 148)) (by decide +kernel)
set_option maxRecDepth 100000 in
theorem q_ac2 : Cond.native arraycopyName ∈ lw_tbl := q_tb_mem (e := (6, 150)) (by decide +kernel)
set_option maxRecDepth 100000 in
theorem q_ac3 : Cond.static arraycopyName ∈ lw_tbl := q_tb_mem (e := (6, 149)) (by decide +kernel)
set_option maxRecDepth 100000 in
theorem q_ac4 : Cond.initialized "java/lang/System" ∈ lw_tbl := q_tb_mem (e := (1, 21)) (by decide +kernel)
def q_clT : List ((Nat × Nat) × Nat) := [((11, 17), 9), ((11, 24), 8), ((11, 33), 0), ((0, 21), 6), ((11, 43), 1), ((11, 52), 2), ((11, 59), 3), ((11, 68), 4), ((11, 77), 5), ((11, 86), 7), ((11, 106), 10)]
set_option maxRecDepth 100000 in
theorem q_clTw : q_clT.map (fun e => Cond.classLink (q_cn e.1.1) e.1.2 (q_cn e.2)) = ([(1, 30), (1, 104), (1, 138), (1, 144), (2, 53), (2, 116), (2, 130), (2, 152), (2, 208), (2, 236), (3, 45)] : List (Nat × Nat)).filterMap q_tb := by decide +kernel
set_option maxRecDepth 100000 in
theorem q_isw : (List.range 13).map (fun c => Cond.instantiable (q_cn c) (q_nf c)) = ([(1, 139), (2, 54), (2, 117), (2, 131), (2, 153), (2, 209), (1, 146), (2, 237), (1, 105), (1, 31), (3, 46), (1, 23), (7, 185)] : List (Nat × Nat)).filterMap q_tb := by decide +kernel
set_option maxRecDepth 100000 in
theorem q_arI : Cond.arrayClass .int ∈ lw_tbl := q_tb_mem (e := (1, 103)) (by decide +kernel)
set_option maxRecDepth 100000 in
theorem q_arJ : Cond.arrayClass .long ∈ lw_tbl := q_tb_mem (e := (1, 102)) (by decide +kernel)
set_option maxRecDepth 100000 in
theorem q_arB : Cond.arrayClass .byte ∈ lw_tbl := q_tb_mem (e := (1, 101)) (by decide +kernel)
set_option maxRecDepth 100000 in
theorem q_arZ : Cond.arrayClass .boolean ∈ lw_tbl := q_tb_mem (e := (2, 115)) (by decide +kernel)
set_option maxRecDepth 100000 in
theorem q_arR : Cond.arrayOver (.object "RewriteDesk$Rule") ∈ lw_tbl := q_tb_mem (e := (1, 145)) (by decide +kernel)
def q_kT : List ((Nat × Nat) × Int32) := [((11, 214), 1000000), ((4, 111), 1000000), ((5, 63), 1000000)]
set_option maxRecDepth 100000 in
theorem q_kTw : q_kT.map (fun e => Cond.constant (q_cn e.1.1) e.1.2 e.2) = ([(6, 40), (6, 97), (7, 77)] : List (Nat × Nat)).filterMap q_tb := by decide +kernel
def q_k2T : List ((Nat × Nat) × Int64) := [((9, 85), 10), ((1, 327), 100), ((12, 283), 37)]
set_option maxRecDepth 100000 in
theorem q_k2Tw : q_k2T.map (fun e => Cond.constantLong (q_cn e.1.1) e.1.2 e.2) = ([(3, 186), (5, 122), (7, 196)] : List (Nat × Nat)).filterMap q_tb := by decide +kernel
