def q_MS : List q_Me := [(yJ0_length_8abf5, cJ0_length_8abf5, 1, some .int, 15, 1, false, []), (yJ0_charAt_5068e, cJ0_charAt_5068e, 2, some .char, 15, 2, false, []), (yJ0_indexOf_0f7a4, cJ0_indexOf_0f7a4, 2, some .int, 15, 2, false, [])]
def q_MA : List q_Me := q_MT ++ q_MS
def q_dm : q_Me := (yX0_clear, cX0_clear, 1, none, 0, 1, false, [])
def q_m (k : Nat) : q_Me := (q_MA[k]?).getD q_dm
def q_nm (k : Nat) : MethodName := (q_m k).1
def q_vT : Nat → List (Nat × Nat) := fun own => match own with
  | 0 => [(61, 3), (65, 6), (69, 5)]
  | 1 => [(51, 9), (59, 1), (71, 25), (94, 188), (75, 30), (100, 190), (108, 26), (115, 28), (118, 11), (78, 31), (121, 12), (81, 33), (139, 32), (128, 165), (136, 166), (142, 127), (152, 39), (190, 40), (200, 37), (204, 131), (214, 38), (193, 41), (218, 36), (183, 35), (179, 34), (221, 29), (224, 133), (228, 134), (155, 132), (161, 42), (242, 15), (245, 50), (289, 51), (292, 18), (280, 49), (251, 136), (164, 43), (254, 137), (257, 44), (167, 45), (170, 46), (270, 7), (274, 8), (173, 48), (176, 13), (84, 52), (295, 53), (301, 54), (305, 55), (312, 19), (315, 58), (329, 163), (308, 21), (318, 59), (332, 164), (321, 56), (324, 57), (298, 14), (90, 189)]
  | 2 => [(15, 61), (24, 65), (28, 67), (32, 71)]
  | 3 => [(29, 62), (33, 63), (48, 88)]
  | 4 => [(50, 9), (68, 92), (81, 64), (84, 6), (78, 93), (94, 68), (97, 69), (100, 71), (104, 70), (107, 99), (152, 100), (168, 76), (155, 101), (178, 106), (206, 16), (209, 17), (212, 66), (158, 103), (161, 104), (191, 105), (112, 95), (119, 96), (122, 97), (148, 91)]
  | 5 => [(35, 91), (41, 94), (45, 85), (50, 121), (85, 109), (89, 122), (111, 106), (114, 108), (93, 123), (117, 72), (120, 73), (99, 124), (68, 110), (133, 79), (137, 111), (140, 80), (143, 77), (146, 125), (152, 78), (156, 67), (53, 87), (56, 113), (64, 112), (78, 98), (82, 86)]
  | 6 => [(76, 135)]
  | 7 => [(57, 139), (64, 149), (139, 88), (142, 63), (71, 10), (77, 147), (118, 148), (121, 83), (131, 62), (112, 152), (145, 150), (148, 151), (84, 20), (115, 158), (151, 157), (154, 156), (81, 153), (88, 118), (94, 154), (109, 159), (97, 119), (101, 120), (106, 155)]
  | 8 => [(45, 168), (69, 188), (49, 173), (72, 169), (82, 172), (75, 171), (61, 167), (79, 170), (52, 174), (55, 175), (85, 190), (91, 176), (105, 177), (95, 178), (108, 181), (98, 179), (102, 180), (58, 182), (111, 183), (114, 185), (117, 184), (65, 189)]
  | 9 => [(27, 353), (33, 354), (51, 191), (55, 196), (69, 197), (81, 198), (75, 199), (89, 355), (58, 188)]
  | 10 => [(35, 72), (45, 73), (63, 65), (52, 204), (76, 68), (80, 69), (83, 205), (87, 70), (59, 207), (94, 208), (101, 64), (104, 66), (107, 209)]
  | 11 => [(118, 234), (122, 187), (126, 161), (130, 162), (132, 23), (136, 24), (137, 235), (286, 61), (152, 84), (289, 143), (290, 114), (140, 139), (144, 2), (148, 77), (155, 3), (158, 65), (161, 64), (164, 7), (168, 8), (171, 78), (175, 67), (179, 74), (182, 75), (185, 79), (188, 71), (191, 80), (194, 66), (198, 68), (201, 69), (204, 70), (207, 4), (210, 91), (215, 94), (218, 113), (221, 116), (224, 115), (227, 118), (231, 5), (234, 144), (237, 146), (240, 145), (243, 140), (246, 89), (249, 62), (253, 63), (256, 72), (259, 202), (262, 73), (277, 82), (280, 141), (283, 142)]
  | 12 => [(270, 291), (276, 238), (358, 246), (296, 240), (300, 245), (307, 247), (311, 248), (333, 249), (376, 262), (336, 252), (330, 250), (394, 253), (345, 251), (397, 255), (379, 263), (382, 265), (400, 264), (403, 266), (418, 258), (355, 257), (406, 268), (422, 267), (425, 256), (409, 269), (412, 270), (428, 280), (468, 254), (471, 282), (465, 277), (474, 279), (477, 281), (415, 273), (438, 274), (442, 275), (444, 271), (451, 276), (455, 259), (385, 286), (483, 287), (487, 283), (490, 285), (492, 284), (388, 288), (391, 289), (534, 298), (537, 299), (531, 297), (540, 294), (543, 300), (546, 304), (549, 306), (552, 295), (555, 307), (588, 321), (591, 318), (594, 320), (582, 314), (566, 313), (570, 315), (579, 312), (562, 311), (573, 316), (576, 317), (585, 319), (597, 324), (616, 328), (603, 292), (607, 326), (600, 296), (610, 327), (613, 293), (622, 334), (625, 332), (619, 333), (631, 338), (628, 336), (634, 341), (637, 342), (647, 337), (640, 329), (643, 340), (654, 345), (650, 344)]
  | _ => []
def q_vTw (own : Nat) (e : Nat × Nat) : Cond := Cond.methodLink (q_cn own) e.1 (q_nm e.2)
set_option maxRecDepth 100000 in
theorem q_vTw0 : (q_vT 0).map (q_vTw 0) = ([(5, 47), (5, 51), (7, 4)] : List (Nat × Nat)).filterMap q_tb := by decide +kernel
set_option maxRecDepth 100000 in
theorem q_vTw1 : (q_vT 1).map (q_vTw 1) = ([(2, 59), (4, 109), (4, 113), (4, 117), (4, 118), (4, 122), (4, 126), (4, 130), (4, 134), (4, 138), (4, 142), (4, 146), (4, 150), (4, 154), (4, 158), (4, 162), (4, 166), (4, 170), (4, 174), (4, 178), (4, 185), (4, 189), (4, 193), (4, 197), (4, 201), (4, 208), (4, 212), (4, 221), (4, 228), (4, 232), (4, 239), (5, 3), (5, 7), (5, 11), (5, 15), (5, 19), (5, 23), (5, 27), (5, 31), (5, 35), (5, 39), (5, 43), (5, 55), (5, 62), (5, 69), (5, 73), (5, 77), (5, 81), (5, 85), (5, 89), (5, 94), (5, 98), (5, 102), (5, 106), (5, 110), (5, 114), (5, 118), (5, 123), (5, 131)] : List (Nat × Nat)).filterMap q_tb := by decide +kernel
set_option maxRecDepth 100000 in
theorem q_vTw2 : (q_vT 2).map (q_vTw 2) = ([(2, 122), (5, 196), (5, 213), (5, 226)] : List (Nat × Nat)).filterMap q_tb := by decide +kernel
set_option maxRecDepth 100000 in
theorem q_vTw3 : (q_vT 3).map (q_vTw 3) = ([(6, 144), (7, 95), (7, 112)] : List (Nat × Nat)).filterMap q_tb := by decide +kernel
set_option maxRecDepth 100000 in
theorem q_vTw4 : (q_vT 4).map (q_vTw 4) = ([(2, 158), (6, 23), (6, 27), (6, 28), (6, 29), (6, 36), (6, 37), (6, 38), (6, 39), (6, 45), (6, 49), (6, 54), (6, 58), (6, 63), (6, 68), (6, 72), (6, 76), (6, 84), (6, 88), (6, 92), (6, 98), (6, 102), (6, 106), (7, 90)] : List (Nat × Nat)).filterMap q_tb := by decide +kernel
set_option maxRecDepth 100000 in
theorem q_vTw5 : (q_vT 5).map (q_vTw 5) = ([(6, 138), (6, 139), (6, 140), (6, 151), (6, 155), (6, 159), (6, 164), (6, 165), (6, 169), (6, 173), (6, 177), (6, 181), (6, 186), (6, 190), (6, 191), (6, 195), (6, 196), (6, 198), (6, 202), (6, 203), (6, 204), (6, 209), (7, 78), (7, 86), (7, 91)] : List (Nat × Nat)).filterMap q_tb := by decide +kernel
set_option maxRecDepth 100000 in
theorem q_vTw6 : (q_vT 6).map (q_vTw 6) = ([(4, 216)] : List (Nat × Nat)).filterMap q_tb := by decide +kernel
set_option maxRecDepth 100000 in
theorem q_vTw7 : (q_vT 7).map (q_vTw 7) = ([(6, 222), (6, 223), (6, 228), (6, 236), (7, 0), (7, 5), (7, 9), (7, 13), (7, 18), (7, 27), (7, 31), (7, 35), (7, 39), (7, 44), (7, 48), (7, 52), (7, 60), (7, 64), (7, 65), (7, 69), (7, 73), (7, 82), (7, 96)] : List (Nat × Nat)).filterMap q_tb := by decide +kernel
set_option maxRecDepth 100000 in
theorem q_vTw8 : (q_vT 8).map (q_vTw 8) = ([(4, 16), (4, 20), (4, 21), (4, 25), (4, 29), (4, 33), (4, 37), (4, 41), (4, 45), (4, 49), (4, 53), (4, 57), (4, 61), (4, 65), (4, 69), (4, 73), (4, 77), (4, 81), (4, 85), (4, 89), (4, 93), (4, 101)] : List (Nat × Nat)).filterMap q_tb := by decide +kernel
set_option maxRecDepth 100000 in
theorem q_vTw9 : (q_vT 9).map (q_vTw 9) = ([(1, 37), (1, 47), (3, 160), (3, 164), (3, 171), (3, 178), (3, 182), (3, 191), (4, 8)] : List (Nat × Nat)).filterMap q_tb := by decide +kernel
set_option maxRecDepth 100000 in
theorem q_vTw10 : (q_vT 10).map (q_vTw 10) = ([(7, 128), (7, 129), (7, 133), (7, 135), (7, 142), (7, 143), (7, 144), (7, 148), (7, 152), (7, 156), (7, 161), (7, 162), (7, 163)] : List (Nat × Nat)).filterMap q_tb := by decide +kernel
set_option maxRecDepth 100000 in
theorem q_vTw11 : (q_vT 11).map (q_vTw 11) = ([(3, 135), (3, 147), (4, 12), (4, 97), (4, 105), (5, 127), (5, 132), (5, 136), (5, 137), (5, 141), (5, 145), (5, 157), (5, 161), (5, 165), (5, 173), (5, 174), (5, 178), (5, 182), (5, 183), (5, 184), (5, 192), (5, 201), (5, 205), (5, 209), (5, 218), (5, 222), (5, 231), (5, 239), (6, 3), (6, 7), (6, 15), (6, 19), (6, 41), (6, 114), (6, 122), (6, 126), (6, 134), (6, 214), (6, 218), (7, 23), (7, 56), (7, 100), (7, 108), (7, 117), (7, 122), (7, 123), (7, 124), (7, 171), (7, 172), (7, 176), (7, 180)] : List (Nat × Nat)).filterMap q_tb := by decide +kernel
set_option maxRecDepth 100000 in
theorem q_vTw12 : (q_vT 12).map (q_vTw 12) = ([(7, 200), (9, 79), (9, 91), (9, 95), (9, 99), (9, 106), (9, 110), (9, 114), (9, 118), (9, 122), (9, 126), (9, 130), (9, 134), (9, 138), (9, 142), (9, 146), (9, 150), (9, 154), (9, 158), (9, 162), (9, 166), (9, 170), (9, 174), (9, 178), (9, 182), (9, 186), (9, 190), (9, 194), (9, 198), (9, 202), (9, 209), (9, 213), (9, 217), (9, 221), (9, 225), (9, 229), (9, 233), (10, 0), (10, 4), (10, 8), (10, 12), (10, 16), (10, 20), (10, 24), (10, 39), (10, 43), (10, 47), (10, 55), (10, 59), (10, 71), (10, 75), (10, 83), (10, 87), (10, 103), (10, 107), (10, 111), (10, 115), (10, 119), (10, 123), (10, 127), (10, 131), (10, 135), (10, 139), (10, 143), (10, 151), (10, 163), (10, 167), (10, 171), (10, 175), (10, 179), (10, 187), (10, 195), (10, 199), (10, 203), (10, 211), (10, 215), (10, 219), (10, 223), (10, 227), (10, 231), (10, 235), (11, 7), (11, 11)] : List (Nat × Nat)).filterMap q_tb := by decide +kernel
theorem q_vT_ok {own idx k : Nat} (h : q_lk (q_vT own) idx = some k) : Cond.methodLink (q_cn own) idx (q_nm k) ∈ lw_tbl := by
  have h1 := q_lk_mem h
  have h2 : q_vTw own (idx, k) ∈ (q_vT own).map (q_vTw own) := List.mem_map_of_mem h1
  match own, h1, h2 with
  | 0, _, h2 => exact q_memT q_vTw0 h2
  | 1, _, h2 => exact q_memT q_vTw1 h2
  | 2, _, h2 => exact q_memT q_vTw2 h2
  | 3, _, h2 => exact q_memT q_vTw3 h2
  | 4, _, h2 => exact q_memT q_vTw4 h2
  | 5, _, h2 => exact q_memT q_vTw5 h2
  | 6, _, h2 => exact q_memT q_vTw6 h2
  | 7, _, h2 => exact q_memT q_vTw7 h2
  | 8, _, h2 => exact q_memT q_vTw8 h2
  | 9, _, h2 => exact q_memT q_vTw9 h2
  | 10, _, h2 => exact q_memT q_vTw10 h2
  | 11, _, h2 => exact q_memT q_vTw11 h2
  | 12, _, h2 => exact q_memT q_vTw12 h2
  | n + 13, h1, _ => exact absurd h1 List.not_mem_nil
def q_sT : Nat → List (Nat × Nat) := fun own => match own with
  | 0 => []
  | 1 => [(104, 27), (238, 128), (277, 47), (286, 129)]
  | 2 => []
  | 3 => [(36, 350), (42, 348), (45, 349)]
  | 4 => [(88, 352), (175, 128), (133, 349), (215, 107), (187, 102), (197, 130)]
  | 5 => [(108, 129)]
  | 6 => [(80, 130)]
  | 7 => []
  | 8 => []
  | 9 => [(41, 350), (47, 195), (62, 192), (65, 194), (72, 193), (78, 200)]
  | 10 => [(48, 203), (70, 351), (90, 206)]
  | 11 => []
  | 12 => [(266, 244), (289, 243), (285, 241), (304, 242), (462, 278), (447, 272), (507, 290)]
  | _ => []
def q_sTw (own : Nat) (e : Nat × Nat) : Cond := Cond.methodLink (q_cn own) e.1 (q_nm e.2)
set_option maxRecDepth 100000 in
theorem q_sTw0 : (q_sT 0).map (q_sTw 0) = ([] : List (Nat × Nat)).filterMap q_tb := by decide +kernel
set_option maxRecDepth 100000 in
theorem q_sTw1 : (q_sT 1).map (q_sTw 1) = ([(4, 123), (4, 236), (5, 59), (5, 66)] : List (Nat × Nat)).filterMap q_tb := by decide +kernel
set_option maxRecDepth 100000 in
theorem q_sTw2 : (q_sT 2).map (q_sTw 2) = ([] : List (Nat × Nat)).filterMap q_tb := by decide +kernel
set_option maxRecDepth 100000 in
theorem q_sTw3 : (q_sT 3).map (q_sTw 3) = ([(6, 208), (6, 232), (6, 235)] : List (Nat × Nat)).filterMap q_tb := by decide +kernel
set_option maxRecDepth 100000 in
theorem q_sTw4 : (q_sT 4).map (q_sTw 4) = ([(6, 33), (6, 62), (6, 67), (6, 77), (6, 81), (6, 96)] : List (Nat × Nat)).filterMap q_tb := by decide +kernel
set_option maxRecDepth 100000 in
theorem q_sTw5 : (q_sT 5).map (q_sTw 5) = ([(6, 163)] : List (Nat × Nat)).filterMap q_tb := by decide +kernel
set_option maxRecDepth 100000 in
theorem q_sTw6 : (q_sT 6).map (q_sTw 6) = ([(4, 225)] : List (Nat × Nat)).filterMap q_tb := by decide +kernel
set_option maxRecDepth 100000 in
theorem q_sTw7 : (q_sT 7).map (q_sTw 7) = ([] : List (Nat × Nat)).filterMap q_tb := by decide +kernel
set_option maxRecDepth 100000 in
theorem q_sTw8 : (q_sT 8).map (q_sTw 8) = ([] : List (Nat × Nat)).filterMap q_tb := by decide +kernel
set_option maxRecDepth 100000 in
theorem q_sTw9 : (q_sT 9).map (q_sTw 9) = ([(3, 151), (3, 154), (3, 157), (3, 168), (3, 175), (3, 187)] : List (Nat × Nat)).filterMap q_tb := by decide +kernel
set_option maxRecDepth 100000 in
theorem q_sTw10 : (q_sT 10).map (q_sTw 10) = ([(7, 130), (7, 139), (7, 149)] : List (Nat × Nat)).filterMap q_tb := by decide +kernel
set_option maxRecDepth 100000 in
theorem q_sTw11 : (q_sT 11).map (q_sTw 11) = ([] : List (Nat × Nat)).filterMap q_tb := by decide +kernel
set_option maxRecDepth 100000 in
theorem q_sTw12 : (q_sT 12).map (q_sTw 12) = ([(7, 190), (7, 193), (7, 197), (9, 103), (9, 206), (9, 237), (10, 28)] : List (Nat × Nat)).filterMap q_tb := by decide +kernel
theorem q_sT_ok {own idx k : Nat} (h : q_lk (q_sT own) idx = some k) : Cond.methodLink (q_cn own) idx (q_nm k) ∈ lw_tbl := by
  have h1 := q_lk_mem h
  have h2 : q_sTw own (idx, k) ∈ (q_sT own).map (q_sTw own) := List.mem_map_of_mem h1
  match own, h1, h2 with
  | 0, _, h2 => exact q_memT q_sTw0 h2
  | 1, _, h2 => exact q_memT q_sTw1 h2
  | 2, _, h2 => exact q_memT q_sTw2 h2
  | 3, _, h2 => exact q_memT q_sTw3 h2
  | 4, _, h2 => exact q_memT q_sTw4 h2
  | 5, _, h2 => exact q_memT q_sTw5 h2
  | 6, _, h2 => exact q_memT q_sTw6 h2
  | 7, _, h2 => exact q_memT q_sTw7 h2
  | 8, _, h2 => exact q_memT q_sTw8 h2
  | 9, _, h2 => exact q_memT q_sTw9 h2
  | 10, _, h2 => exact q_memT q_sTw10 h2
  | 11, _, h2 => exact q_memT q_sTw11 h2
  | 12, _, h2 => exact q_memT q_sTw12 h2
  | n + 13, h1, _ => exact absurd h1 List.not_mem_nil
def q_iT : Nat → List (Nat × Nat) := fun own => match own with
  | 0 => []
  | 1 => []
  | 2 => []
  | 3 => []
  | 4 => []
  | 5 => []
  | 6 => []
  | 7 => []
  | 8 => []
  | 9 => []
  | 10 => []
  | 11 => [(19, 186), (26, 160), (35, 0), (45, 22), (54, 60), (61, 81), (70, 90), (79, 117), (88, 138), (108, 201)]
  | 12 => []
  | _ => []
def q_iTw (own : Nat) (e : Nat × Nat) : Cond := Cond.methodLink (q_cn own) e.1 (q_nm e.2)
set_option maxRecDepth 100000 in
theorem q_iTw0 : (q_iT 0).map (q_iTw 0) = ([] : List (Nat × Nat)).filterMap q_tb := by decide +kernel
set_option maxRecDepth 100000 in
theorem q_iTw1 : (q_iT 1).map (q_iTw 1) = ([] : List (Nat × Nat)).filterMap q_tb := by decide +kernel
set_option maxRecDepth 100000 in
theorem q_iTw2 : (q_iT 2).map (q_iTw 2) = ([] : List (Nat × Nat)).filterMap q_tb := by decide +kernel
set_option maxRecDepth 100000 in
theorem q_iTw3 : (q_iT 3).map (q_iTw 3) = ([] : List (Nat × Nat)).filterMap q_tb := by decide +kernel
set_option maxRecDepth 100000 in
theorem q_iTw4 : (q_iT 4).map (q_iTw 4) = ([] : List (Nat × Nat)).filterMap q_tb := by decide +kernel
set_option maxRecDepth 100000 in
theorem q_iTw5 : (q_iT 5).map (q_iTw 5) = ([] : List (Nat × Nat)).filterMap q_tb := by decide +kernel
set_option maxRecDepth 100000 in
theorem q_iTw6 : (q_iT 6).map (q_iTw 6) = ([] : List (Nat × Nat)).filterMap q_tb := by decide +kernel
set_option maxRecDepth 100000 in
theorem q_iTw7 : (q_iT 7).map (q_iTw 7) = ([] : List (Nat × Nat)).filterMap q_tb := by decide +kernel
set_option maxRecDepth 100000 in
theorem q_iTw8 : (q_iT 8).map (q_iTw 8) = ([] : List (Nat × Nat)).filterMap q_tb := by decide +kernel
set_option maxRecDepth 100000 in
theorem q_iTw9 : (q_iT 9).map (q_iTw 9) = ([] : List (Nat × Nat)).filterMap q_tb := by decide +kernel
set_option maxRecDepth 100000 in
theorem q_iTw10 : (q_iT 10).map (q_iTw 10) = ([] : List (Nat × Nat)).filterMap q_tb := by decide +kernel
set_option maxRecDepth 100000 in
theorem q_iTw11 : (q_iT 11).map (q_iTw 11) = ([(1, 32), (1, 106), (1, 140), (2, 55), (2, 118), (2, 132), (2, 154), (2, 210), (2, 238), (3, 47)] : List (Nat × Nat)).filterMap q_tb := by decide +kernel
set_option maxRecDepth 100000 in
theorem q_iTw12 : (q_iT 12).map (q_iTw 12) = ([] : List (Nat × Nat)).filterMap q_tb := by decide +kernel
theorem q_iT_ok {own idx k : Nat} (h : q_lk (q_iT own) idx = some k) : Cond.methodLink (q_cn own) idx (q_nm k) ∈ lw_tbl := by
  have h1 := q_lk_mem h
  have h2 : q_iTw own (idx, k) ∈ (q_iT own).map (q_iTw own) := List.mem_map_of_mem h1
  match own, h1, h2 with
  | 0, _, h2 => exact q_memT q_iTw0 h2
  | 1, _, h2 => exact q_memT q_iTw1 h2
  | 2, _, h2 => exact q_memT q_iTw2 h2
  | 3, _, h2 => exact q_memT q_iTw3 h2
  | 4, _, h2 => exact q_memT q_iTw4 h2
  | 5, _, h2 => exact q_memT q_iTw5 h2
  | 6, _, h2 => exact q_memT q_iTw6 h2
  | 7, _, h2 => exact q_memT q_iTw7 h2
  | 8, _, h2 => exact q_memT q_iTw8 h2
  | 9, _, h2 => exact q_memT q_iTw9 h2
  | 10, _, h2 => exact q_memT q_iTw10 h2
  | 11, _, h2 => exact q_memT q_iTw11 h2
  | 12, _, h2 => exact q_memT q_iTw12 h2
  | n + 13, h1, _ => exact absurd h1 List.not_mem_nil
def q_nT : Nat → List (Nat × Nat) := fun own => match own with
  | 0 => [(72, 233), (76, 232), (41, 126)]
  | 1 => [(210, 233), (186, 232)]
  | 2 => []
  | 3 => []
  | 4 => [(115, 232), (219, 233)]
  | 5 => [(126, 232), (72, 233)]
  | 6 => [(84, 233)]
  | 7 => [(135, 232), (127, 233)]
  | 8 => []
  | 9 => []
  | 10 => [(66, 233), (98, 232)]
  | 11 => []
  | 12 => []
  | _ => []
def q_nTw (own : Nat) (e : Nat × Nat) : Cond := Cond.methodLinkNest (q_cn own) e.1 (q_nm e.2) "RewriteDesk"
set_option maxRecDepth 100000 in
theorem q_nTw0 : (q_nT 0).map (q_nTw 0) = ([(5, 93), (7, 43), (1, 147)] : List (Nat × Nat)).filterMap q_tb := by decide +kernel
set_option maxRecDepth 100000 in
theorem q_nTw1 : (q_nT 1).map (q_nTw 1) = ([(4, 182), (4, 205)] : List (Nat × Nat)).filterMap q_tb := by decide +kernel
set_option maxRecDepth 100000 in
theorem q_nTw2 : (q_nT 2).map (q_nTw 2) = ([] : List (Nat × Nat)).filterMap q_tb := by decide +kernel
set_option maxRecDepth 100000 in
theorem q_nTw3 : (q_nT 3).map (q_nTw 3) = ([] : List (Nat × Nat)).filterMap q_tb := by decide +kernel
set_option maxRecDepth 100000 in
theorem q_nTw4 : (q_nT 4).map (q_nTw 4) = ([(6, 53), (6, 80)] : List (Nat × Nat)).filterMap q_tb := by decide +kernel
set_option maxRecDepth 100000 in
theorem q_nTw5 : (q_nT 5).map (q_nTw 5) = ([(6, 185), (6, 197)] : List (Nat × Nat)).filterMap q_tb := by decide +kernel
set_option maxRecDepth 100000 in
theorem q_nTw6 : (q_nT 6).map (q_nTw 6) = ([(4, 220)] : List (Nat × Nat)).filterMap q_tb := by decide +kernel
set_option maxRecDepth 100000 in
theorem q_nTw7 : (q_nT 7).map (q_nTw 7) = ([(6, 227), (7, 17)] : List (Nat × Nat)).filterMap q_tb := by decide +kernel
set_option maxRecDepth 100000 in
theorem q_nTw8 : (q_nT 8).map (q_nTw 8) = ([] : List (Nat × Nat)).filterMap q_tb := by decide +kernel
set_option maxRecDepth 100000 in
theorem q_nTw9 : (q_nT 9).map (q_nTw 9) = ([] : List (Nat × Nat)).filterMap q_tb := by decide +kernel
set_option maxRecDepth 100000 in
theorem q_nTw10 : (q_nT 10).map (q_nTw 10) = ([(7, 134), (7, 160)] : List (Nat × Nat)).filterMap q_tb := by decide +kernel
set_option maxRecDepth 100000 in
theorem q_nTw11 : (q_nT 11).map (q_nTw 11) = ([] : List (Nat × Nat)).filterMap q_tb := by decide +kernel
set_option maxRecDepth 100000 in
theorem q_nTw12 : (q_nT 12).map (q_nTw 12) = ([] : List (Nat × Nat)).filterMap q_tb := by decide +kernel
theorem q_nT_ok {own idx k : Nat} (h : q_lk (q_nT own) idx = some k) : Cond.methodLinkNest (q_cn own) idx (q_nm k) "RewriteDesk" ∈ lw_tbl := by
  have h1 := q_lk_mem h
  have h2 : q_nTw own (idx, k) ∈ (q_nT own).map (q_nTw own) := List.mem_map_of_mem h1
  match own, h1, h2 with
  | 0, _, h2 => exact q_memT q_nTw0 h2
  | 1, _, h2 => exact q_memT q_nTw1 h2
  | 2, _, h2 => exact q_memT q_nTw2 h2
  | 3, _, h2 => exact q_memT q_nTw3 h2
  | 4, _, h2 => exact q_memT q_nTw4 h2
  | 5, _, h2 => exact q_memT q_nTw5 h2
  | 6, _, h2 => exact q_memT q_nTw6 h2
  | 7, _, h2 => exact q_memT q_nTw7 h2
  | 8, _, h2 => exact q_memT q_nTw8 h2
  | 9, _, h2 => exact q_memT q_nTw9 h2
  | 10, _, h2 => exact q_memT q_nTw10 h2
  | 11, _, h2 => exact q_memT q_nTw11 h2
  | 12, _, h2 => exact q_memT q_nTw12 h2
  | n + 13, h1, _ => exact absurd h1 List.not_mem_nil
