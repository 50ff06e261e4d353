def q_lk {α : Type} (l : List (Nat × α)) (i : Nat) : Option α := match l with
  | [] => none
  | e :: l => if e.1 = i then some e.2 else q_lk l i
theorem q_lk_mem {α : Type} {l : List (Nat × α)} {i : Nat} {a : α} (h : q_lk l i = some a) : (i, a) ∈ l := by
  induction l with
  | nil => cases h
  | cons e l ih =>
    unfold q_lk at h
    split at h
    next h1 => cases h; subst h1; exact List.mem_cons_self
    next => exact List.mem_cons_of_mem _ (ih h)
def q_tb (e : Nat × Nat) : Option Cond := match e.1 with
  | 1 => tables_1_1[e.2]?
  | 2 => tables_1_2[e.2]?
  | 3 => tables_1_3[e.2]?
  | 4 => tables_1_4[e.2]?
  | 5 => tables_1_5[e.2]?
  | 6 => tables_1_6[e.2]?
  | 7 => tables_1_7[e.2]?
  | 8 => tables_1_8[e.2]?
  | 9 => tables_1_9[e.2]?
  | 10 => tables_1_10[e.2]?
  | 11 => tables_1_11[e.2]?
  | 21 => (k2_sels lw_privs_1)[e.2]?
  | 22 => (k2_sels lw_privs_2)[e.2]?
  | 23 => (k2_sels lw_privs_3)[e.2]?
  | 24 => (k2_sels lw_privs_4)[e.2]?
  | 25 => (k2_sels lw_privs_5)[e.2]?
  | 26 => (k2_sels lw_privs_6)[e.2]?
  | 27 => (k2_sels lw_privs_7)[e.2]?
  | 28 => (k2_sels lw_privs_8)[e.2]?
  | 29 => (k2_sels lw_privs_9)[e.2]?
  | 30 => (k2_sels lw_privs_10)[e.2]?
  | 31 => (k2_sels lw_privs_11)[e.2]?
  | 32 => (k2_sels lw_privs_12)[e.2]?
  | _ => none
theorem q_tb_mem {e : Nat × Nat} {w : Cond} (h : q_tb e = some w) : w ∈ lw_tbl := by
  unfold q_tb at h
  unfold lw_tbl k2_sels lw_privs tables_1
  simp only [List.map_append, List.mem_append]
  split at h
  · have h1 := List.mem_of_getElem? h; simp only [h1, true_or, or_true]
  · have h1 := List.mem_of_getElem? h; simp only [h1, true_or, or_true]
  · have h1 := List.mem_of_getElem? h; simp only [h1, true_or, or_true]
  · have h1 := List.mem_of_getElem? h; simp only [h1, true_or, or_true]
  · have h1 := List.mem_of_getElem? h; simp only [h1, true_or, or_true]
  · have h1 := List.mem_of_getElem? h; simp only [h1, true_or, or_true]
  · have h1 := List.mem_of_getElem? h; simp only [h1, true_or, or_true]
  · have h1 := List.mem_of_getElem? h; simp only [h1, true_or, or_true]
  · have h1 := List.mem_of_getElem? h; simp only [h1, true_or, or_true]
  · have h1 := List.mem_of_getElem? h; simp only [h1, true_or, or_true]
  · have h1 := List.mem_of_getElem? h; simp only [h1, true_or, or_true]
  · have h1 := List.mem_of_getElem? h; unfold k2_sels at h1; simp only [h1, true_or, or_true]
  · have h1 := List.mem_of_getElem? h; unfold k2_sels at h1; simp only [h1, true_or, or_true]
  · have h1 := List.mem_of_getElem? h; unfold k2_sels at h1; simp only [h1, true_or, or_true]
  · have h1 := List.mem_of_getElem? h; unfold k2_sels at h1; simp only [h1, true_or, or_true]
  · have h1 := List.mem_of_getElem? h; unfold k2_sels at h1; simp only [h1, true_or, or_true]
  · have h1 := List.mem_of_getElem? h; unfold k2_sels at h1; simp only [h1, true_or, or_true]
  · have h1 := List.mem_of_getElem? h; unfold k2_sels at h1; simp only [h1, true_or, or_true]
  · have h1 := List.mem_of_getElem? h; unfold k2_sels at h1; simp only [h1, true_or, or_true]
  · have h1 := List.mem_of_getElem? h; unfold k2_sels at h1; simp only [h1, true_or, or_true]
  · have h1 := List.mem_of_getElem? h; unfold k2_sels at h1; simp only [h1, true_or, or_true]
  · have h1 := List.mem_of_getElem? h; unfold k2_sels at h1; simp only [h1, true_or, or_true]
  · have h1 := List.mem_of_getElem? h; unfold k2_sels at h1; simp only [h1, true_or, or_true]
  · cases h
theorem q_memT {w : Cond} {ws : List Cond} {ix : List (Nat × Nat)} (h : ws = ix.filterMap q_tb) (hw : w ∈ ws) : w ∈ lw_tbl := by
  rw [h] at hw
  obtain ⟨i, -, hi⟩ := List.mem_filterMap.mp hw
  exact q_tb_mem hi
def q_flT : Nat → List (Nat × (Nat × Nat)) := fun own => match own with
  | 0 => [(42, 0, 0), (46, 0, 1), (49, 0, 2), (52, 0, 3), (55, 0, 4), (58, 0, 5), (11, 0, 6), (15, 0, 7), (18, 0, 8), (23, 0, 9), (27, 0, 10), (32, 0, 11), (35, 0, 12), (38, 0, 13)]
  | 1 => [(158, 6, 2), (232, 6, 3), (283, 6, 4), (261, 6, 5), (196, 6, 6), (207, 6, 8), (264, 6, 11), (267, 6, 12), (235, 6, 18), (248, 6, 19), (97, 0, 0), (112, 0, 1), (125, 0, 2), (133, 0, 3), (39, 1, 0), (43, 1, 1), (13, 1, 2), (19, 1, 3), (22, 1, 4), (25, 1, 5), (29, 1, 6), (32, 1, 7), (35, 1, 8), (143, 1, 9), (146, 1, 10), (149, 1, 11), (47, 1, 12), (55, 1, 13), (62, 1, 14), (66, 1, 15), (87, 1, 16)]
  | 2 => [(11, 2, 0)]
  | 3 => [(15, 3, 0), (11, 3, 1), (26, 3, 2), (19, 3, 3), (23, 3, 4)]
  | 4 => [(62, 6, 0), (125, 6, 1), (72, 6, 2), (172, 6, 3), (145, 6, 5), (142, 6, 6), (65, 6, 7), (75, 6, 8), (194, 6, 9), (139, 6, 10), (127, 6, 11), (130, 6, 12), (184, 6, 13), (203, 6, 18), (200, 6, 19), (42, 4, 0), (46, 4, 1), (54, 4, 2), (11, 4, 3), (17, 4, 4), (164, 4, 5), (58, 4, 6), (20, 4, 7), (23, 4, 8), (30, 4, 9), (33, 4, 10), (181, 4, 11), (36, 4, 12), (39, 4, 13), (223, 4, 14), (226, 4, 15)]
  | 5 => [(96, 6, 4), (103, 6, 14), (123, 6, 15), (130, 6, 16), (149, 6, 17), (23, 5, 0), (27, 5, 1), (31, 5, 2), (9, 5, 3), (15, 5, 4), (20, 5, 5), (59, 5, 6)]
  | 6 => [(53, 6, 0), (57, 6, 1), (60, 6, 2), (63, 6, 3), (66, 6, 4), (69, 6, 5), (72, 6, 6), (13, 6, 7), (17, 6, 8), (20, 6, 9), (23, 6, 10), (26, 6, 11), (29, 6, 12), (32, 6, 13), (35, 6, 14), (38, 6, 15), (41, 6, 16), (44, 6, 17), (47, 6, 18), (50, 6, 19)]
  | 7 => [(35, 7, 0), (39, 7, 1), (43, 7, 2), (47, 7, 3), (51, 7, 4), (54, 7, 5), (13, 7, 6), (61, 7, 7), (68, 7, 8), (17, 7, 9), (21, 7, 10), (24, 7, 11), (27, 7, 12), (32, 7, 13)]
  | 8 => [(20, 8, 0), (11, 8, 1), (17, 8, 2), (24, 8, 3), (28, 8, 4), (31, 8, 5), (34, 8, 6), (37, 8, 7), (40, 8, 8)]
  | 9 => [(11, 9, 0), (15, 9, 1), (19, 9, 2), (22, 9, 3), (37, 9, 4)]
  | 10 => [(28, 10, 0), (32, 10, 1), (11, 10, 2), (15, 10, 3), (18, 10, 4), (22, 10, 5), (41, 10, 6), (25, 10, 7), (56, 10, 8)]
  | 11 => [(265, 0, 0), (268, 0, 1), (271, 0, 2), (274, 0, 3), (9, 11, 0), (115, 11, 1), (13, 11, 2), (20, 11, 3), (29, 11, 4), (36, 11, 5), (40, 11, 6), (48, 11, 7), (55, 11, 8), (64, 11, 9), (73, 11, 10), (82, 11, 11), (91, 11, 12), (95, 11, 13), (99, 11, 14), (103, 11, 15), (111, 11, 16)]
  | 12 => [(13, 12, 1), (273, 12, 2), (17, 12, 3), (280, 12, 4), (20, 12, 5), (24, 12, 6), (27, 12, 7), (30, 12, 8), (34, 12, 9), (293, 12, 10), (318, 12, 11), (339, 12, 12), (315, 12, 13), (321, 12, 14), (324, 12, 15), (327, 12, 16), (37, 12, 17), (342, 12, 18), (349, 12, 19), (361, 12, 20), (364, 12, 21), (367, 12, 22), (370, 12, 23), (495, 12, 24), (498, 12, 25), (501, 12, 26), (504, 12, 27), (40, 12, 28), (43, 12, 29), (46, 12, 30), (49, 12, 31), (52, 12, 32), (55, 12, 33), (59, 12, 34), (62, 12, 35), (65, 12, 36), (68, 12, 37), (71, 12, 38), (74, 12, 39), (77, 12, 40), (80, 12, 41), (83, 12, 42), (86, 12, 43), (89, 12, 44), (92, 12, 45), (95, 12, 46), (98, 12, 47), (101, 12, 48), (104, 12, 49), (107, 12, 50), (110, 12, 51), (113, 12, 52), (116, 12, 53), (119, 12, 54), (122, 12, 55), (125, 12, 56), (128, 12, 57), (131, 12, 58), (134, 12, 59), (137, 12, 60), (140, 12, 61), (143, 12, 62), (146, 12, 63), (149, 12, 64), (152, 12, 65), (155, 12, 66), (158, 12, 67), (352, 12, 68), (161, 12, 69), (164, 12, 70), (167, 12, 71), (170, 12, 72), (173, 12, 73), (176, 12, 74), (432, 12, 75), (179, 12, 76), (435, 12, 77), (459, 12, 78), (182, 12, 79), (480, 12, 80), (185, 12, 81), (188, 12, 82), (191, 12, 83), (373, 12, 84), (194, 12, 85), (197, 12, 86), (200, 12, 87), (203, 12, 88), (206, 12, 89), (209, 12, 90), (510, 12, 91), (513, 12, 92), (212, 12, 93), (215, 12, 94), (525, 12, 95), (528, 12, 96), (218, 12, 97), (221, 12, 98), (558, 12, 99), (224, 12, 100), (227, 12, 101), (230, 12, 102), (233, 12, 103), (516, 12, 104), (519, 12, 105), (522, 12, 106), (236, 12, 107), (239, 12, 108), (242, 12, 109), (245, 12, 110), (248, 12, 111), (251, 12, 112), (254, 12, 113), (257, 12, 114), (260, 12, 115), (263, 12, 116)]
  | _ => []
def q_fw (own : Nat) (e : Nat × Nat × Nat) : Cond := Cond.fieldLink (q_cn own) e.1 (q_cn e.2.1) ((q_ct e.2.1 e.2.2).2.1) ((q_ct e.2.1 e.2.2).2.2.1)
set_option maxRecDepth 100000 in
theorem q_fw0 : (q_flT 0).map (q_fw 0) = ([(2, 2), (2, 5), (2, 8), (2, 11), (2, 14), (2, 15), (2, 16), (2, 17), (2, 18), (2, 19), (2, 20), (2, 21), (2, 22), (2, 23)] : List (Nat × Nat)).filterMap q_tb := by decide +kernel
set_option maxRecDepth 100000 in
theorem q_fw1 : (q_flT 1).map (q_fw 1) = ([(1, 157), (1, 160), (1, 163), (1, 166), (1, 169), (1, 174), (1, 181), (1, 184), (1, 197), (1, 200), (2, 3), (2, 6), (2, 9), (2, 12), (2, 63), (2, 64), (2, 65), (2, 66), (2, 67), (2, 68), (2, 69), (2, 70), (2, 71), (2, 72), (2, 73), (2, 74), (2, 75), (2, 76), (2, 77), (2, 78), (2, 79)] : List (Nat × Nat)).filterMap q_tb := by decide +kernel
set_option maxRecDepth 100000 in
theorem q_fw2 : (q_flT 2).map (q_fw 2) = ([(2, 126)] : List (Nat × Nat)).filterMap q_tb := by decide +kernel
set_option maxRecDepth 100000 in
theorem q_fw3 : (q_flT 3).map (q_fw 3) = ([(2, 136), (2, 137), (2, 138), (2, 139), (2, 140)] : List (Nat × Nat)).filterMap q_tb := by decide +kernel
set_option maxRecDepth 100000 in
theorem q_fw4 : (q_flT 4).map (q_fw 4) = ([(1, 152), (1, 154), (1, 156), (1, 159), (1, 165), (1, 168), (1, 171), (1, 173), (1, 176), (1, 178), (1, 180), (1, 183), (1, 186), (1, 196), (1, 199), (2, 159), (2, 160), (2, 161), (2, 162), (2, 163), (2, 164), (2, 165), (2, 166), (2, 167), (2, 168), (2, 169), (2, 170), (2, 171), (2, 172), (2, 173), (2, 174)] : List (Nat × Nat)).filterMap q_tb := by decide +kernel
set_option maxRecDepth 100000 in
theorem q_fw5 : (q_flT 5).map (q_fw 5) = ([(1, 162), (1, 188), (1, 190), (1, 192), (1, 194), (2, 214), (2, 215), (2, 216), (2, 217), (2, 218), (2, 219), (2, 220)] : List (Nat × Nat)).filterMap q_tb := by decide +kernel
set_option maxRecDepth 100000 in
theorem q_fw6 : (q_flT 6).map (q_fw 6) = ([(1, 151), (1, 153), (1, 155), (1, 158), (1, 161), (1, 164), (1, 167), (1, 170), (1, 172), (1, 175), (1, 177), (1, 179), (1, 182), (1, 185), (1, 187), (1, 189), (1, 191), (1, 193), (1, 195), (1, 198)] : List (Nat × Nat)).filterMap q_tb := by decide +kernel
set_option maxRecDepth 100000 in
theorem q_fw7 : (q_flT 7).map (q_fw 7) = ([(3, 2), (3, 3), (3, 4), (3, 5), (3, 6), (3, 7), (3, 8), (3, 9), (3, 10), (3, 11), (3, 12), (3, 13), (3, 14), (3, 15)] : List (Nat × Nat)).filterMap q_tb := by decide +kernel
set_option maxRecDepth 100000 in
theorem q_fw8 : (q_flT 8).map (q_fw 8) = ([(1, 110), (1, 111), (1, 112), (1, 113), (1, 114), (1, 115), (1, 116), (1, 117), (1, 118)] : List (Nat × Nat)).filterMap q_tb := by decide +kernel
set_option maxRecDepth 100000 in
theorem q_fw9 : (q_flT 9).map (q_fw 9) = ([(1, 85), (1, 86), (1, 87), (1, 88), (1, 89)] : List (Nat × Nat)).filterMap q_tb := by decide +kernel
set_option maxRecDepth 100000 in
theorem q_fw10 : (q_flT 10).map (q_fw 10) = ([(3, 51), (3, 52), (3, 53), (3, 54), (3, 55), (3, 56), (3, 57), (3, 58), (3, 59)] : List (Nat × Nat)).filterMap q_tb := by decide +kernel
set_option maxRecDepth 100000 in
theorem q_fw11 : (q_flT 11).map (q_fw 11) = ([(2, 4), (2, 7), (2, 10), (2, 13), (3, 79), (3, 80), (3, 81), (3, 82), (3, 83), (3, 84), (3, 85), (3, 86), (3, 87), (3, 88), (3, 89), (3, 90), (3, 91), (3, 92), (3, 93), (3, 94), (3, 95)] : List (Nat × Nat)).filterMap q_tb := by decide +kernel
set_option maxRecDepth 100000 in
theorem q_fw12 : (q_flT 12).map (q_fw 12) = ([(7, 204), (7, 205), (7, 206), (7, 207), (7, 208), (7, 209), (7, 210), (7, 211), (7, 212), (7, 213), (7, 214), (7, 215), (7, 216), (7, 217), (7, 218), (7, 219), (7, 220), (7, 221), (7, 222), (7, 223), (7, 224), (7, 225), (7, 226), (7, 227), (7, 228), (7, 229), (7, 230), (7, 231), (7, 232), (7, 233), (7, 234), (7, 235), (7, 236), (7, 237), (7, 238), (7, 239), (8, 0), (8, 1), (8, 2), (8, 3), (8, 4), (8, 5), (8, 6), (8, 7), (8, 8), (8, 9), (8, 10), (8, 11), (8, 12), (8, 13), (8, 14), (8, 15), (8, 16), (8, 17), (8, 18), (8, 19), (8, 20), (8, 21), (8, 22), (8, 23), (8, 24), (8, 25), (8, 26), (8, 27), (8, 28), (8, 29), (8, 30), (8, 31), (8, 32), (8, 33), (8, 34), (8, 35), (8, 36), (8, 37), (8, 38), (8, 39), (8, 40), (8, 41), (8, 42), (8, 43), (8, 44), (8, 45), (8, 46), (8, 47), (8, 48), (8, 49), (8, 50), (8, 51), (8, 52), (8, 53), (8, 54), (8, 55), (8, 56), (8, 57), (8, 58), (8, 59), (8, 60), (8, 61), (8, 62), (8, 63), (8, 64), (8, 65), (8, 66), (8, 67), (8, 68), (8, 69), (8, 70), (8, 71), (8, 72), (8, 73), (8, 74), (8, 75), (8, 76), (8, 77), (8, 78), (8, 79)] : List (Nat × Nat)).filterMap q_tb := by decide +kernel
theorem q_fl_ok {own idx ci sl : Nat} (h : q_lk (q_flT own) idx = some (ci, sl)) : Cond.fieldLink (q_cn own) idx (q_cn ci) ((q_ct ci sl).2.1) ((q_ct ci sl).2.2.1) ∈ lw_tbl := by
  have h1 := q_lk_mem h
  have h2 : q_fw own (idx, ci, sl) ∈ (q_flT own).map (q_fw own) := List.mem_map_of_mem h1
  match own, h1, h2 with
  | 0, _, h2 => exact q_memT q_fw0 h2
  | 1, _, h2 => exact q_memT q_fw1 h2
  | 2, _, h2 => exact q_memT q_fw2 h2
  | 3, _, h2 => exact q_memT q_fw3 h2
  | 4, _, h2 => exact q_memT q_fw4 h2
  | 5, _, h2 => exact q_memT q_fw5 h2
  | 6, _, h2 => exact q_memT q_fw6 h2
  | 7, _, h2 => exact q_memT q_fw7 h2
  | 8, _, h2 => exact q_memT q_fw8 h2
  | 9, _, h2 => exact q_memT q_fw9 h2
  | 10, _, h2 => exact q_memT q_fw10 h2
  | 11, _, h2 => exact q_memT q_fw11 h2
  | 12, _, h2 => exact q_memT q_fw12 h2
  | n + 13, h1, _ => exact absurd h1 List.not_mem_nil
theorem q_flOK : ∀ own, own < 13 → ((q_flT own).all (fun e => decide (e.2.1 < 13) && decide (e.2.2 < q_nf e.2.1))) = true := by decide +kernel
