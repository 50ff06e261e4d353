def q_MT : List q_Me := q_mt0 ++ (q_mt1 ++ (q_mt2 ++ (q_mt3 ++ (q_mt4 ++ (q_mt5 ++ (q_mt6 ++ (q_mt7 ++ (q_mt8 ++ (q_mt9 ++ (q_mt10 ++ (q_mt11 ++ (q_mt12 ++ (q_mt13 ++ (q_mt14))))))))))))))
theorem q_MTd : ∀ q ∈ q_MT, q.2.2.2.2.2.2.2.all (fun e => decide (decode q.2.1 e.1 = .ok (e.2.1, e.2.2))) = true := by
  intro q h
  unfold q_MT at h
  simp only [List.mem_append] at h
  rcases h with h | h | h | h | h | h | h | h | h | h | h | h | h | h | h
  · exact q_mtd0 q h
  · exact q_mtd1 q h
  · exact q_mtd2 q h
  · exact q_mtd3 q h
  · exact q_mtd4 q h
  · exact q_mtd5 q h
  · exact q_mtd6 q h
  · exact q_mtd7 q h
  · exact q_mtd8 q h
  · exact q_mtd9 q h
  · exact q_mtd10 q h
  · exact q_mtd11 q h
  · exact q_mtd12 q h
  · exact q_mtd13 q h
  · exact q_mtd14 q h
