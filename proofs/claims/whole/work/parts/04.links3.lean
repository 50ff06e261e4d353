set_option maxRecDepth 100000 in
theorem q_cw0 : q_mt0.map (fun q => Cond.code q.1 q.2.1 q.2.2.1 q.2.2.2.1) = ([(1, 142), (4, 112), (5, 164), (5, 50), (6, 18), (6, 217), (5, 54), (5, 46), (5, 58), (2, 62), (7, 3), (4, 137), (4, 145), (5, 72), (5, 126), (5, 2), (6, 71), (6, 75), (5, 14), (5, 92), (7, 42), (5, 105), (2, 57), (4, 108)] : List (Nat × Nat)).filterMap q_tb := by rfl
set_option maxRecDepth 100000 in
theorem q_kw0 : q_mt0.map (fun q => if q.2.2.2.2.2.2.1 = true then Cond.static q.1 else Cond.instanceMethod q.1) = ([(1, 141), (4, 110), (5, 162), (5, 48), (6, 16), (6, 215), (5, 52), (5, 44), (5, 56), (2, 60), (7, 1), (4, 135), (4, 143), (5, 70), (5, 124), (5, 0), (6, 69), (6, 73), (5, 12), (5, 90), (7, 40), (5, 103), (2, 56), (4, 106)] : List (Nat × Nat)).filterMap q_tb := by decide +kernel
set_option maxRecDepth 100000 in
theorem q_aw0 : q_mt0.all (fun q => decide (q.1.cls = q_cn q.2.2.2.2.1) && decide ((parseMethodDescriptor q.1.desc).map (fun d => d.parameters.length) = some (if q.2.2.2.2.2.2.1 = true then q.2.2.2.2.2.1 else q.2.2.2.2.2.1 - 1)) && decide (q.2.2.1 ≤ 40) && decide (q.2.2.2.2.1 < 16) && (q.2.2.2.2.2.2.1 || decide (0 < q.2.2.2.2.2.1))) = true := by decide +kernel
set_option maxRecDepth 100000 in
theorem q_cw1 : q_mt1.map (fun q => Cond.code q.1 q.2.1 q.2.2.1 q.2.2.2.1) = ([(5, 130), (4, 116), (4, 129), (4, 125), (4, 133), (4, 211), (4, 121), (4, 141), (4, 153), (4, 149), (4, 204), (4, 200), (4, 196), (4, 177), (4, 188), (4, 169), (4, 173), (4, 192), (4, 235), (5, 26), (5, 34), (5, 38), (5, 42), (5, 61)] : List (Nat × Nat)).filterMap q_tb := by rfl
set_option maxRecDepth 100000 in
theorem q_kw1 : q_mt1.map (fun q => if q.2.2.2.2.2.2.1 = true then Cond.static q.1 else Cond.instanceMethod q.1) = ([(5, 128), (4, 115), (4, 128), (4, 124), (4, 132), (4, 210), (4, 120), (4, 140), (4, 152), (4, 148), (4, 203), (4, 199), (4, 195), (4, 176), (4, 187), (4, 168), (4, 172), (4, 191), (4, 234), (5, 25), (5, 33), (5, 37), (5, 41), (5, 60)] : List (Nat × Nat)).filterMap q_tb := by decide +kernel
set_option maxRecDepth 100000 in
theorem q_aw1 : q_mt1.all (fun q => decide (q.1.cls = q_cn q.2.2.2.2.1) && decide ((parseMethodDescriptor q.1.desc).map (fun d => d.parameters.length) = some (if q.2.2.2.2.2.2.1 = true then q.2.2.2.2.2.1 else q.2.2.2.2.2.1 - 1)) && decide (q.2.2.1 ≤ 40) && decide (q.2.2.2.2.1 < 16) && (q.2.2.2.2.2.2.1 || decide (0 < q.2.2.2.2.2.1))) = true := by decide +kernel
set_option maxRecDepth 100000 in
theorem q_cw2 : q_mt2.map (fun q => Cond.code q.1 q.2.1 q.2.2.1 q.2.2.2.1) = ([(5, 65), (5, 18), (5, 6), (5, 10), (5, 76), (5, 80), (5, 84), (5, 88), (5, 117), (5, 121), (5, 97), (5, 109), (2, 120), (2, 125), (6, 147), (6, 239), (5, 181), (5, 177), (5, 234), (5, 195), (6, 2), (6, 6), (6, 10), (5, 221)] : List (Nat × Nat)).filterMap q_tb := by rfl
set_option maxRecDepth 100000 in
theorem q_kw2 : q_mt2.map (fun q => if q.2.2.2.2.2.2.1 = true then Cond.static q.1 else Cond.instanceMethod q.1) = ([(5, 64), (5, 17), (5, 5), (5, 9), (5, 75), (5, 79), (5, 83), (5, 87), (5, 116), (5, 120), (5, 96), (5, 108), (2, 119), (2, 123), (6, 145), (6, 237), (5, 179), (5, 175), (5, 232), (5, 193), (6, 0), (6, 4), (6, 8), (5, 219)] : List (Nat × Nat)).filterMap q_tb := by decide +kernel
set_option maxRecDepth 100000 in
theorem q_aw2 : q_mt2.all (fun q => decide (q.1.cls = q_cn q.2.2.2.2.1) && decide ((parseMethodDescriptor q.1.desc).map (fun d => d.parameters.length) = some (if q.2.2.2.2.2.2.1 = true then q.2.2.2.2.2.1 else q.2.2.2.2.2.1 - 1)) && decide (q.2.2.1 ≤ 40) && decide (q.2.2.2.2.1 < 16) && (q.2.2.2.2.2.2.1 || decide (0 < q.2.2.2.2.2.1))) = true := by decide +kernel
set_option maxRecDepth 100000 in
theorem q_cw3 : q_mt3.map (fun q => Cond.code q.1 q.2.1 q.2.2.1 q.2.2.2.1) = ([(6, 176), (6, 180), (5, 204), (5, 208), (6, 57), (5, 168), (5, 187), (5, 212), (5, 225), (2, 134), (7, 175), (7, 16), (5, 140), (6, 143), (7, 94), (6, 207), (6, 231), (7, 111), (2, 156), (6, 22), (6, 26), (6, 32), (6, 44), (6, 101)] : List (Nat × Nat)).filterMap q_tb := by rfl
set_option maxRecDepth 100000 in
theorem q_kw3 : q_mt3.map (fun q => if q.2.2.2.2.2.2.1 = true then Cond.static q.1 else Cond.instanceMethod q.1) = ([(6, 174), (6, 178), (5, 202), (5, 206), (6, 55), (5, 166), (5, 185), (5, 210), (5, 223), (2, 133), (7, 173), (7, 14), (5, 138), (6, 141), (7, 92), (6, 205), (6, 229), (7, 109), (2, 155), (6, 20), (6, 25), (6, 31), (6, 42), (6, 100)] : List (Nat × Nat)).filterMap q_tb := by decide +kernel
set_option maxRecDepth 100000 in
theorem q_aw3 : q_mt3.all (fun q => decide (q.1.cls = q_cn q.2.2.2.2.1) && decide ((parseMethodDescriptor q.1.desc).map (fun d => d.parameters.length) = some (if q.2.2.2.2.2.2.1 = true then q.2.2.2.2.2.1 else q.2.2.2.2.2.1 - 1)) && decide (q.2.2.1 ≤ 40) && decide (q.2.2.2.2.1 < 16) && (q.2.2.2.2.2.2.1 || decide (0 < q.2.2.2.2.2.1))) = true := by decide +kernel
set_option maxRecDepth 100000 in
theorem q_cw4 : q_mt4.map (fun q => Cond.code q.1 q.2.1 q.2.2.1 q.2.2.2.1) = ([(6, 105), (6, 109), (7, 89), (6, 48), (6, 52), (6, 61), (6, 83), (6, 87), (6, 91), (6, 95), (6, 66), (6, 79), (6, 168), (6, 158), (6, 189), (6, 194), (7, 81), (6, 117), (5, 148), (6, 129), (6, 125), (2, 212), (6, 137), (7, 76)] : List (Nat × Nat)).filterMap q_tb := by rfl
set_option maxRecDepth 100000 in
theorem q_kw4 : q_mt4.map (fun q => if q.2.2.2.2.2.2.1 = true then Cond.static q.1 else Cond.instanceMethod q.1) = ([(6, 104), (6, 108), (7, 87), (6, 47), (6, 51), (6, 60), (6, 82), (6, 86), (6, 90), (6, 94), (6, 64), (6, 78), (6, 166), (6, 156), (6, 187), (6, 192), (7, 79), (6, 115), (5, 146), (6, 127), (6, 123), (2, 211), (6, 135), (7, 74)] : List (Nat × Nat)).filterMap q_tb := by decide +kernel
set_option maxRecDepth 100000 in
theorem q_aw4 : q_mt4.all (fun q => decide (q.1.cls = q_cn q.2.2.2.2.1) && decide ((parseMethodDescriptor q.1.desc).map (fun d => d.parameters.length) = some (if q.2.2.2.2.2.2.1 = true then q.2.2.2.2.2.1 else q.2.2.2.2.2.1 - 1)) && decide (q.2.2.1 ≤ 40) && decide (q.2.2.2.2.1 < 16) && (q.2.2.2.2.2.2.1 || decide (0 < q.2.2.2.2.2.1))) = true := by decide +kernel
set_option maxRecDepth 100000 in
theorem q_cw5 : q_mt5.map (fun q => Cond.code q.1 q.2.1 q.2.2.1 q.2.2.2.1) = ([(7, 85), (6, 154), (6, 162), (6, 172), (6, 184), (6, 201), (1, 149), (4, 165), (4, 238), (5, 68), (4, 227), (4, 181), (4, 231), (4, 215), (4, 224), (4, 219), (5, 22), (5, 30), (3, 0), (5, 160), (7, 103), (7, 179), (7, 183), (5, 144)] : List (Nat × Nat)).filterMap q_tb := by rfl
set_option maxRecDepth 100000 in
theorem q_kw5 : q_mt5.map (fun q => if q.2.2.2.2.2.2.1 = true then Cond.static q.1 else Cond.instanceMethod q.1) = ([(7, 83), (6, 153), (6, 161), (6, 171), (6, 183), (6, 200), (1, 148), (4, 163), (4, 237), (5, 67), (4, 226), (4, 179), (4, 229), (4, 213), (4, 222), (4, 218), (5, 20), (5, 28), (2, 239), (5, 158), (7, 101), (7, 177), (7, 181), (5, 142)] : List (Nat × Nat)).filterMap q_tb := by decide +kernel
set_option maxRecDepth 100000 in
theorem q_aw5 : q_mt5.all (fun q => decide (q.1.cls = q_cn q.2.2.2.2.1) && decide ((parseMethodDescriptor q.1.desc).map (fun d => d.parameters.length) = some (if q.2.2.2.2.2.2.1 = true then q.2.2.2.2.2.1 else q.2.2.2.2.2.1 - 1)) && decide (q.2.2.1 ≤ 40) && decide (q.2.2.2.2.1 < 16) && (q.2.2.2.2.2.2.1 || decide (0 < q.2.2.2.2.2.1))) = true := by decide +kernel
set_option maxRecDepth 100000 in
theorem q_cw6 : q_mt6.map (fun q => Cond.code q.1 q.2.1 q.2.2.1 q.2.2.2.1) = ([(6, 221), (7, 59), (7, 26), (7, 8), (7, 12), (6, 226), (7, 34), (7, 38), (7, 30), (7, 63), (7, 68), (7, 99), (7, 55), (7, 51), (7, 47), (7, 72), (1, 108), (4, 15), (4, 100), (5, 101), (5, 113), (4, 157), (4, 161), (4, 40)] : List (Nat × Nat)).filterMap q_tb := by rfl
set_option maxRecDepth 100000 in
theorem q_kw6 : q_mt6.map (fun q => if q.2.2.2.2.2.2.1 = true then Cond.static q.1 else Cond.instanceMethod q.1) = ([(6, 219), (7, 57), (7, 24), (7, 7), (7, 11), (6, 225), (7, 33), (7, 37), (7, 29), (7, 62), (7, 67), (7, 98), (7, 54), (7, 50), (7, 46), (7, 71), (1, 107), (4, 13), (4, 98), (5, 99), (5, 111), (4, 155), (4, 159), (4, 39)] : List (Nat × Nat)).filterMap q_tb := by decide +kernel
set_option maxRecDepth 100000 in
theorem q_aw6 : q_mt6.all (fun q => decide (q.1.cls = q_cn q.2.2.2.2.1) && decide ((parseMethodDescriptor q.1.desc).map (fun d => d.parameters.length) = some (if q.2.2.2.2.2.2.1 = true then q.2.2.2.2.2.1 else q.2.2.2.2.2.1 - 1)) && decide (q.2.2.1 ≤ 40) && decide (q.2.2.2.2.1 < 16) && (q.2.2.2.2.2.2.1 || decide (0 < q.2.2.2.2.2.1))) = true := by decide +kernel
set_option maxRecDepth 100000 in
theorem q_cw7 : q_mt7.map (fun q => Cond.code q.1 q.2.1 q.2.2.1 q.2.2.2.1) = ([(4, 19), (4, 28), (4, 44), (4, 36), (4, 32), (4, 24), (4, 48), (4, 52), (4, 60), (4, 64), (4, 68), (4, 76), (4, 80), (4, 72), (4, 84), (4, 88), (4, 96), (4, 92), (1, 34), (3, 150), (4, 11), (4, 104), (4, 56), (3, 163)] : List (Nat × Nat)).filterMap q_tb := by rfl
set_option maxRecDepth 100000 in
theorem q_kw7 : q_mt7.map (fun q => if q.2.2.2.2.2.2.1 = true then Cond.static q.1 else Cond.instanceMethod q.1) = ([(4, 18), (4, 27), (4, 43), (4, 35), (4, 31), (4, 23), (4, 47), (4, 51), (4, 59), (4, 63), (4, 67), (4, 75), (4, 79), (4, 71), (4, 83), (4, 87), (4, 95), (4, 91), (1, 33), (3, 148), (4, 9), (4, 102), (4, 54), (3, 162)] : List (Nat × Nat)).filterMap q_tb := by decide +kernel
set_option maxRecDepth 100000 in
theorem q_aw7 : q_mt7.all (fun q => decide (q.1.cls = q_cn q.2.2.2.2.1) && decide ((parseMethodDescriptor q.1.desc).map (fun d => d.parameters.length) = some (if q.2.2.2.2.2.2.1 = true then q.2.2.2.2.2.1 else q.2.2.2.2.2.1 - 1)) && decide (q.2.2.1 ≤ 40) && decide (q.2.2.2.2.1 < 16) && (q.2.2.2.2.2.2.1 || decide (0 < q.2.2.2.2.2.1))) = true := by decide +kernel
set_option maxRecDepth 100000 in
theorem q_cw8 : q_mt8.map (fun q => Cond.code q.1 q.2.1 q.2.2.1 q.2.2.2.1) = ([(3, 159), (3, 177), (3, 170), (3, 156), (3, 167), (3, 174), (3, 181), (3, 185), (3, 189), (3, 49), (7, 127), (7, 132), (7, 138), (7, 147), (7, 151), (7, 155), (7, 159), (7, 166), (1, 26), (3, 134), (3, 142), (3, 146), (5, 152), (5, 156)] : List (Nat × Nat)).filterMap q_tb := by rfl
set_option maxRecDepth 100000 in
theorem q_kw8 : q_mt8.map (fun q => if q.2.2.2.2.2.2.1 = true then Cond.static q.1 else Cond.instanceMethod q.1) = ([(3, 158), (3, 176), (3, 169), (3, 155), (3, 166), (3, 173), (3, 180), (3, 184), (3, 188), (3, 48), (7, 125), (7, 131), (7, 137), (7, 146), (7, 150), (7, 154), (7, 158), (7, 165), (1, 25), (3, 132), (3, 140), (3, 144), (5, 150), (5, 154)] : List (Nat × Nat)).filterMap q_tb := by decide +kernel
set_option maxRecDepth 100000 in
theorem q_aw8 : q_mt8.all (fun q => decide (q.1.cls = q_cn q.2.2.2.2.1) && decide ((parseMethodDescriptor q.1.desc).map (fun d => d.parameters.length) = some (if q.2.2.2.2.2.2.1 = true then q.2.2.2.2.2.1 else q.2.2.2.2.2.1 - 1)) && decide (q.2.2.1 ≤ 40) && decide (q.2.2.2.2.1 < 16) && (q.2.2.2.2.2.2.1 || decide (0 < q.2.2.2.2.2.1))) = true := by decide +kernel
set_option maxRecDepth 100000 in
theorem q_cw9 : q_mt9.map (fun q => Cond.code q.1 q.2.1 q.2.2.1 q.2.2.2.1) = ([(5, 172), (5, 191), (5, 200), (5, 217), (5, 230), (5, 238), (6, 14), (6, 113), (6, 121), (6, 133), (6, 213), (7, 22), (7, 107), (7, 116), (7, 121), (7, 170), (4, 207), (4, 184), (3, 138), (5, 135), (7, 188), (9, 78), (9, 82), (9, 86)] : List (Nat × Nat)).filterMap q_tb := by rfl
set_option maxRecDepth 100000 in
theorem q_kw9 : q_mt9.map (fun q => if q.2.2.2.2.2.2.1 = true then Cond.static q.1 else Cond.instanceMethod q.1) = ([(5, 170), (5, 189), (5, 198), (5, 215), (5, 228), (5, 236), (6, 12), (6, 111), (6, 119), (6, 131), (6, 211), (7, 20), (7, 105), (7, 114), (7, 119), (7, 168), (4, 206), (4, 183), (3, 137), (5, 134), (7, 187), (9, 76), (9, 81), (9, 84)] : List (Nat × Nat)).filterMap q_tb := by decide +kernel
set_option maxRecDepth 100000 in
theorem q_aw9 : q_mt9.all (fun q => decide (q.1.cls = q_cn q.2.2.2.2.1) && decide ((parseMethodDescriptor q.1.desc).map (fun d => d.parameters.length) = some (if q.2.2.2.2.2.2.1 = true then q.2.2.2.2.2.1 else q.2.2.2.2.2.1 - 1)) && decide (q.2.2.1 ≤ 40) && decide (q.2.2.2.2.1 < 16) && (q.2.2.2.2.2.2.1 || decide (0 < q.2.2.2.2.2.1))) = true := by decide +kernel
set_option maxRecDepth 100000 in
theorem q_cw10 : q_mt10.map (fun q => Cond.code q.1 q.2.1 q.2.2.1 q.2.2.2.1) = ([(9, 98), (7, 199), (9, 105), (7, 195), (7, 192), (9, 102), (9, 94), (9, 109), (9, 113), (9, 117), (9, 129), (9, 137), (9, 125), (9, 133), (9, 193), (9, 141), (9, 177), (9, 165), (9, 161), (9, 236), (9, 90), (10, 34), (9, 121), (9, 145)] : List (Nat × Nat)).filterMap q_tb := by rfl
set_option maxRecDepth 100000 in
theorem q_kw10 : q_mt10.map (fun q => if q.2.2.2.2.2.2.1 = true then Cond.static q.1 else Cond.instanceMethod q.1) = ([(9, 97), (7, 198), (9, 104), (7, 194), (7, 191), (9, 101), (9, 93), (9, 108), (9, 112), (9, 116), (9, 128), (9, 136), (9, 124), (9, 132), (9, 192), (9, 140), (9, 176), (9, 164), (9, 160), (9, 235), (9, 88), (10, 32), (9, 120), (9, 144)] : List (Nat × Nat)).filterMap q_tb := by decide +kernel
set_option maxRecDepth 100000 in
theorem q_aw10 : q_mt10.all (fun q => decide (q.1.cls = q_cn q.2.2.2.2.1) && decide ((parseMethodDescriptor q.1.desc).map (fun d => d.parameters.length) = some (if q.2.2.2.2.2.2.1 = true then q.2.2.2.2.2.1 else q.2.2.2.2.2.1 - 1)) && decide (q.2.2.1 ≤ 40) && decide (q.2.2.2.2.1 < 16) && (q.2.2.2.2.2.2.1 || decide (0 < q.2.2.2.2.2.1))) = true := by decide +kernel
set_option maxRecDepth 100000 in
theorem q_cw11 : q_mt11.map (fun q => Cond.code q.1 q.2.1 q.2.2.1 q.2.2.2.1) = ([(9, 153), (9, 149), (9, 157), (9, 173), (9, 169), (9, 181), (9, 185), (9, 228), (9, 239), (9, 216), (9, 220), (9, 224), (9, 232), (9, 201), (9, 208), (9, 205), (9, 189), (9, 212), (9, 197), (10, 11), (10, 19), (10, 15), (10, 3), (10, 7)] : List (Nat × Nat)).filterMap q_tb := by rfl
set_option maxRecDepth 100000 in
theorem q_kw11 : q_mt11.map (fun q => if q.2.2.2.2.2.2.1 = true then Cond.static q.1 else Cond.instanceMethod q.1) = ([(9, 152), (9, 148), (9, 156), (9, 172), (9, 168), (9, 180), (9, 184), (9, 227), (9, 238), (9, 215), (9, 219), (9, 223), (9, 231), (9, 200), (9, 207), (9, 204), (9, 188), (9, 211), (9, 196), (10, 10), (10, 18), (10, 14), (10, 2), (10, 6)] : List (Nat × Nat)).filterMap q_tb := by decide +kernel
set_option maxRecDepth 100000 in
theorem q_aw11 : q_mt11.all (fun q => decide (q.1.cls = q_cn q.2.2.2.2.1) && decide ((parseMethodDescriptor q.1.desc).map (fun d => d.parameters.length) = some (if q.2.2.2.2.2.2.1 = true then q.2.2.2.2.2.1 else q.2.2.2.2.2.1 - 1)) && decide (q.2.2.1 ≤ 40) && decide (q.2.2.2.2.1 < 16) && (q.2.2.2.2.2.2.1 || decide (0 < q.2.2.2.2.2.1))) = true := by decide +kernel
set_option maxRecDepth 100000 in
theorem q_cw12 : q_mt12.map (fun q => Cond.code q.1 q.2.1 q.2.2.1 q.2.2.2.1) = ([(10, 23), (10, 27), (10, 30), (7, 203), (10, 170), (10, 190), (10, 58), (10, 86), (10, 178), (10, 50), (10, 42), (10, 46), (10, 62), (10, 38), (10, 54), (10, 66), (10, 74), (10, 70), (10, 78), (10, 90), (10, 82), (10, 94), (10, 98), (10, 134)] : List (Nat × Nat)).filterMap q_tb := by rfl
set_option maxRecDepth 100000 in
theorem q_kw12 : q_mt12.map (fun q => if q.2.2.2.2.2.2.1 = true then Cond.static q.1 else Cond.instanceMethod q.1) = ([(10, 22), (10, 26), (10, 29), (7, 202), (10, 169), (10, 189), (10, 57), (10, 85), (10, 177), (10, 49), (10, 41), (10, 45), (10, 61), (10, 36), (10, 52), (10, 64), (10, 73), (10, 68), (10, 77), (10, 89), (10, 80), (10, 92), (10, 96), (10, 133)] : List (Nat × Nat)).filterMap q_tb := by decide +kernel
set_option maxRecDepth 100000 in
theorem q_aw12 : q_mt12.all (fun q => decide (q.1.cls = q_cn q.2.2.2.2.1) && decide ((parseMethodDescriptor q.1.desc).map (fun d => d.parameters.length) = some (if q.2.2.2.2.2.2.1 = true then q.2.2.2.2.2.1 else q.2.2.2.2.2.1 - 1)) && decide (q.2.2.1 ≤ 40) && decide (q.2.2.2.2.1 < 16) && (q.2.2.2.2.2.2.1 || decide (0 < q.2.2.2.2.2.1))) = true := by decide +kernel
set_option maxRecDepth 100000 in
theorem q_cw13 : q_mt13.map (fun q => Cond.code q.1 q.2.1 q.2.2.1 q.2.2.2.1) = ([(10, 130), (10, 122), (10, 118), (10, 126), (10, 138), (10, 142), (10, 110), (10, 146), (10, 114), (10, 106), (10, 102), (10, 150), (10, 154), (10, 158), (10, 174), (10, 182), (10, 166), (10, 234), (10, 162), (10, 186), (10, 202), (10, 206), (10, 198), (10, 194)] : List (Nat × Nat)).filterMap q_tb := by rfl
set_option maxRecDepth 100000 in
theorem q_kw13 : q_mt13.map (fun q => if q.2.2.2.2.2.2.1 = true then Cond.static q.1 else Cond.instanceMethod q.1) = ([(10, 129), (10, 121), (10, 117), (10, 125), (10, 137), (10, 141), (10, 109), (10, 145), (10, 113), (10, 105), (10, 100), (10, 148), (10, 153), (10, 156), (10, 173), (10, 181), (10, 165), (10, 233), (10, 160), (10, 184), (10, 201), (10, 205), (10, 197), (10, 192)] : List (Nat × Nat)).filterMap q_tb := by decide +kernel
set_option maxRecDepth 100000 in
theorem q_aw13 : q_mt13.all (fun q => decide (q.1.cls = q_cn q.2.2.2.2.1) && decide ((parseMethodDescriptor q.1.desc).map (fun d => d.parameters.length) = some (if q.2.2.2.2.2.2.1 = true then q.2.2.2.2.2.1 else q.2.2.2.2.2.1 - 1)) && decide (q.2.2.1 ≤ 40) && decide (q.2.2.2.2.1 < 16) && (q.2.2.2.2.2.2.1 || decide (0 < q.2.2.2.2.2.1))) = true := by decide +kernel
set_option maxRecDepth 100000 in
theorem q_cw14 : q_mt14.map (fun q => Cond.code q.1 q.2.1 q.2.2.1 q.2.2.2.1) = ([(10, 218), (10, 230), (10, 214), (10, 210), (10, 238), (10, 222), (10, 226), (11, 2), (11, 14), (11, 10), (11, 6), (11, 18), (6, 234), (3, 208), (3, 153), (7, 141), (6, 35)] : List (Nat × Nat)).filterMap q_tb := by rfl
set_option maxRecDepth 100000 in
theorem q_kw14 : q_mt14.map (fun q => if q.2.2.2.2.2.2.1 = true then Cond.static q.1 else Cond.instanceMethod q.1) = ([(10, 217), (10, 229), (10, 213), (10, 208), (10, 237), (10, 221), (10, 225), (11, 0), (11, 13), (11, 9), (11, 4), (11, 16), (6, 233), (3, 207), (3, 152), (7, 140), (6, 34)] : List (Nat × Nat)).filterMap q_tb := by decide +kernel
set_option maxRecDepth 100000 in
theorem q_aw14 : q_mt14.all (fun q => decide (q.1.cls = q_cn q.2.2.2.2.1) && decide ((parseMethodDescriptor q.1.desc).map (fun d => d.parameters.length) = some (if q.2.2.2.2.2.2.1 = true then q.2.2.2.2.2.1 else q.2.2.2.2.2.1 - 1)) && decide (q.2.2.1 ≤ 40) && decide (q.2.2.2.2.1 < 16) && (q.2.2.2.2.2.2.1 || decide (0 < q.2.2.2.2.2.1))) = true := by decide +kernel
set_option maxRecDepth 100000 in
theorem q_cw15 : q_MS.map (fun q => Cond.code q.1 q.2.1 q.2.2.1 q.2.2.2.1) = ([(1, 40), (1, 50), (3, 194)] : List (Nat × Nat)).filterMap q_tb := by rfl
set_option maxRecDepth 100000 in
theorem q_kw15 : q_MS.map (fun q => if q.2.2.2.2.2.2.1 = true then Cond.static q.1 else Cond.instanceMethod q.1) = ([(1, 38), (1, 48), (3, 192)] : List (Nat × Nat)).filterMap q_tb := by decide +kernel
set_option maxRecDepth 100000 in
theorem q_aw15 : q_MS.all (fun q => decide (q.1.cls = q_cn q.2.2.2.2.1) && decide ((parseMethodDescriptor q.1.desc).map (fun d => d.parameters.length) = some (if q.2.2.2.2.2.2.1 = true then q.2.2.2.2.2.1 else q.2.2.2.2.2.1 - 1)) && decide (q.2.2.1 ≤ 40) && decide (q.2.2.2.2.1 < 16) && (q.2.2.2.2.2.2.1 || decide (0 < q.2.2.2.2.2.1))) = true := by decide +kernel
theorem q_cwA : ∀ q ∈ q_MA, Cond.code q.1 q.2.1 q.2.2.1 q.2.2.2.1 ∈ lw_tbl := by
  intro q h
  unfold q_MA q_MT at h
  simp only [List.mem_append] at h
  rcases h with (h | h | h | h | h | h | h | h | h | h | h | h | h | h | h) | h
  · exact q_memT q_cw0 (List.mem_map_of_mem (f := fun q : q_Me => Cond.code q.1 q.2.1 q.2.2.1 q.2.2.2.1) h)
  · exact q_memT q_cw1 (List.mem_map_of_mem (f := fun q : q_Me => Cond.code q.1 q.2.1 q.2.2.1 q.2.2.2.1) h)
  · exact q_memT q_cw2 (List.mem_map_of_mem (f := fun q : q_Me => Cond.code q.1 q.2.1 q.2.2.1 q.2.2.2.1) h)
  · exact q_memT q_cw3 (List.mem_map_of_mem (f := fun q : q_Me => Cond.code q.1 q.2.1 q.2.2.1 q.2.2.2.1) h)
  · exact q_memT q_cw4 (List.mem_map_of_mem (f := fun q : q_Me => Cond.code q.1 q.2.1 q.2.2.1 q.2.2.2.1) h)
  · exact q_memT q_cw5 (List.mem_map_of_mem (f := fun q : q_Me => Cond.code q.1 q.2.1 q.2.2.1 q.2.2.2.1) h)
  · exact q_memT q_cw6 (List.mem_map_of_mem (f := fun q : q_Me => Cond.code q.1 q.2.1 q.2.2.1 q.2.2.2.1) h)
  · exact q_memT q_cw7 (List.mem_map_of_mem (f := fun q : q_Me => Cond.code q.1 q.2.1 q.2.2.1 q.2.2.2.1) h)
  · exact q_memT q_cw8 (List.mem_map_of_mem (f := fun q : q_Me => Cond.code q.1 q.2.1 q.2.2.1 q.2.2.2.1) h)
  · exact q_memT q_cw9 (List.mem_map_of_mem (f := fun q : q_Me => Cond.code q.1 q.2.1 q.2.2.1 q.2.2.2.1) h)
  · exact q_memT q_cw10 (List.mem_map_of_mem (f := fun q : q_Me => Cond.code q.1 q.2.1 q.2.2.1 q.2.2.2.1) h)
  · exact q_memT q_cw11 (List.mem_map_of_mem (f := fun q : q_Me => Cond.code q.1 q.2.1 q.2.2.1 q.2.2.2.1) h)
  · exact q_memT q_cw12 (List.mem_map_of_mem (f := fun q : q_Me => Cond.code q.1 q.2.1 q.2.2.1 q.2.2.2.1) h)
  · exact q_memT q_cw13 (List.mem_map_of_mem (f := fun q : q_Me => Cond.code q.1 q.2.1 q.2.2.1 q.2.2.2.1) h)
  · exact q_memT q_cw14 (List.mem_map_of_mem (f := fun q : q_Me => Cond.code q.1 q.2.1 q.2.2.1 q.2.2.2.1) h)
  · exact q_memT q_cw15 (List.mem_map_of_mem (f := fun q : q_Me => Cond.code q.1 q.2.1 q.2.2.1 q.2.2.2.1) h)
theorem q_kwA : ∀ q ∈ q_MA, (if q.2.2.2.2.2.2.1 = true then Cond.static q.1 else Cond.instanceMethod q.1) ∈ lw_tbl := by
  intro q h
  unfold q_MA q_MT at h
  simp only [List.mem_append] at h
  rcases h with (h | h | h | h | h | h | h | h | h | h | h | h | h | h | h) | h
  · exact q_memT q_kw0 (List.mem_map_of_mem (f := fun q : q_Me => if q.2.2.2.2.2.2.1 = true then Cond.static q.1 else Cond.instanceMethod q.1) h)
  · exact q_memT q_kw1 (List.mem_map_of_mem (f := fun q : q_Me => if q.2.2.2.2.2.2.1 = true then Cond.static q.1 else Cond.instanceMethod q.1) h)
  · exact q_memT q_kw2 (List.mem_map_of_mem (f := fun q : q_Me => if q.2.2.2.2.2.2.1 = true then Cond.static q.1 else Cond.instanceMethod q.1) h)
  · exact q_memT q_kw3 (List.mem_map_of_mem (f := fun q : q_Me => if q.2.2.2.2.2.2.1 = true then Cond.static q.1 else Cond.instanceMethod q.1) h)
  · exact q_memT q_kw4 (List.mem_map_of_mem (f := fun q : q_Me => if q.2.2.2.2.2.2.1 = true then Cond.static q.1 else Cond.instanceMethod q.1) h)
  · exact q_memT q_kw5 (List.mem_map_of_mem (f := fun q : q_Me => if q.2.2.2.2.2.2.1 = true then Cond.static q.1 else Cond.instanceMethod q.1) h)
  · exact q_memT q_kw6 (List.mem_map_of_mem (f := fun q : q_Me => if q.2.2.2.2.2.2.1 = true then Cond.static q.1 else Cond.instanceMethod q.1) h)
  · exact q_memT q_kw7 (List.mem_map_of_mem (f := fun q : q_Me => if q.2.2.2.2.2.2.1 = true then Cond.static q.1 else Cond.instanceMethod q.1) h)
  · exact q_memT q_kw8 (List.mem_map_of_mem (f := fun q : q_Me => if q.2.2.2.2.2.2.1 = true then Cond.static q.1 else Cond.instanceMethod q.1) h)
  · exact q_memT q_kw9 (List.mem_map_of_mem (f := fun q : q_Me => if q.2.2.2.2.2.2.1 = true then Cond.static q.1 else Cond.instanceMethod q.1) h)
  · exact q_memT q_kw10 (List.mem_map_of_mem (f := fun q : q_Me => if q.2.2.2.2.2.2.1 = true then Cond.static q.1 else Cond.instanceMethod q.1) h)
  · exact q_memT q_kw11 (List.mem_map_of_mem (f := fun q : q_Me => if q.2.2.2.2.2.2.1 = true then Cond.static q.1 else Cond.instanceMethod q.1) h)
  · exact q_memT q_kw12 (List.mem_map_of_mem (f := fun q : q_Me => if q.2.2.2.2.2.2.1 = true then Cond.static q.1 else Cond.instanceMethod q.1) h)
  · exact q_memT q_kw13 (List.mem_map_of_mem (f := fun q : q_Me => if q.2.2.2.2.2.2.1 = true then Cond.static q.1 else Cond.instanceMethod q.1) h)
  · exact q_memT q_kw14 (List.mem_map_of_mem (f := fun q : q_Me => if q.2.2.2.2.2.2.1 = true then Cond.static q.1 else Cond.instanceMethod q.1) h)
  · exact q_memT q_kw15 (List.mem_map_of_mem (f := fun q : q_Me => if q.2.2.2.2.2.2.1 = true then Cond.static q.1 else Cond.instanceMethod q.1) h)
theorem q_awA : ∀ q ∈ q_MA, (decide (q.1.cls = q_cn q.2.2.2.2.1) && decide ((parseMethodDescriptor q.1.desc).map (fun d => d.parameters.length) = some (if q.2.2.2.2.2.2.1 = true then q.2.2.2.2.2.1 else q.2.2.2.2.2.1 - 1)) && decide (q.2.2.1 ≤ 40) && decide (q.2.2.2.2.1 < 16) && (q.2.2.2.2.2.2.1 || decide (0 < q.2.2.2.2.2.1))) = true := by
  intro q h
  unfold q_MA q_MT at h
  simp only [List.mem_append] at h
  rcases h with (h | h | h | h | h | h | h | h | h | h | h | h | h | h | h) | h
  · exact List.all_eq_true.mp q_aw0 q h
  · exact List.all_eq_true.mp q_aw1 q h
  · exact List.all_eq_true.mp q_aw2 q h
  · exact List.all_eq_true.mp q_aw3 q h
  · exact List.all_eq_true.mp q_aw4 q h
  · exact List.all_eq_true.mp q_aw5 q h
  · exact List.all_eq_true.mp q_aw6 q h
  · exact List.all_eq_true.mp q_aw7 q h
  · exact List.all_eq_true.mp q_aw8 q h
  · exact List.all_eq_true.mp q_aw9 q h
  · exact List.all_eq_true.mp q_aw10 q h
  · exact List.all_eq_true.mp q_aw11 q h
  · exact List.all_eq_true.mp q_aw12 q h
  · exact List.all_eq_true.mp q_aw13 q h
  · exact List.all_eq_true.mp q_aw14 q h
  · exact List.all_eq_true.mp q_aw15 q h
