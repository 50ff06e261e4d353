/-! THE LAW: the cases of its switch -/
section LS
variable {p : Program} {l : Launch} {e : Env} {s : State} {m : MethodId} {args : Array Value} {below : List Frame} {meth : Method} {c : Code} {H : Heap} {locs : List Loc} {cells slots : Nat} {Q : State → Prop}
variable {ls : Array Slot} {B b L i u : Nat} {xs : Nat → Int32} {aS aV : Nat → Nat} {tc : Nat → ClassId} {D : va_G} {h : q_Hp}
theorem lj_c0 (F : lj_Fr D B aS aV tc p s m args c) (hX : va_X b L xs s s.heap) (hbl : b < s.heap.size) (hbB : ¬ B < b) (hL : L ≤ 3072) (hi : i + 5 < L) (hu : u + 40 < 2 ^ 20) (R : r_R t_W t_K h u) (hA : q_At D B aS tc s h H locs cells) (hl : lv_has ls 4 [(0, .ref b), (1, .ref (B + 1)), (2, .ref (B + 630)), (3, .int (nI i))]) (hRc : cells ≤ 600000) (hRs : slots ≤ 7302250) (fin : ∀ h2 H2 locs2, r_R t_W t_K h2 u → q_At D B aS tc s h2 H2 locs2 cells → W p l e room_1 s m args below meth c H2 locs2 cells slots Q (F0 m 731 ls [])) : W p l e room_1 s m args below meth c H locs cells slots Q (F0 m 132 ls []) := by
  have hx := F.1
  have hb := F.2.1
  obtain ⟨z, h1, h2, M1, M2, R2, k1, k2, n1, z1, n2, z2⟩ := lj_two (l := l) (D := D) (B := B) (aS := aS) (aV := aV) (tc := tc) (as := [.int (xs (i + 1)), .int (xs (i + 2)), .int (xs (i + 3)), .int (xs (i + 4)), .int (xs (i + 5))]) R (r_feed) rfl rfl rfl rfl
  refine lv_aload_n hx hb dL_law_132 rfl (lv_at hl 1 rfl) ?_
  refine lj_arg (j := 1) hx hb hX hbl hbB hA.2.1 hl hL (by omega) dL_law_133 dL_law_134 dL_law_135 (by decide) dL_law_136 dL_law_137 ?_
  refine lj_arg (j := 2) hx hb hX hbl hbB hA.2.1 hl hL (by omega) dL_law_138 dL_law_139 dL_law_140 (by decide) dL_law_141 dL_law_142 ?_
  refine lj_arg (j := 3) hx hb hX hbl hbB hA.2.1 hl hL (by omega) dL_law_143 dL_law_144 dL_law_145 (by decide) dL_law_146 dL_law_147 ?_
  refine lj_arg (j := 4) hx hb hX hbl hbB hA.2.1 hl hL (by omega) dL_law_148 dL_law_149 dL_law_150 (by decide) dL_law_151 dL_law_152 ?_
  refine lj_arg (j := 5) hx hb hX hbl hbB hA.2.1 hl hL (by omega) dL_law_153 dL_law_154 dL_law_155 (by decide) dL_law_156 dL_law_157 ?_
  refine lj_call0 (k := 211) (idx := 13) (o := 1) (as := [.int (xs (i + 1)), .int (xs (i + 2)), .int (xs (i + 3)), .int (xs (i + 4)), .int (xs (i + 5))]) (rest := []) F hA hl.1 rfl M1 n1 z1 k1 (by decide) rfl (by decide) hRc hRs (by decide) rfl dL_law_158 (fun H locs hA => ?_)
  refine lv_aload_n hx hb dL_law_161 rfl (lv_at hl 2 rfl) ?_
  refine lj_arg (j := 1) hx hb hX hbl hbB hA.2.1 hl hL (by omega) dL_law_162 dL_law_163 dL_law_164 (by decide) dL_law_165 dL_law_166 ?_
  refine lj_arg (j := 2) hx hb hX hbl hbB hA.2.1 hl hL (by omega) dL_law_167 dL_law_168 dL_law_169 (by decide) dL_law_170 dL_law_171 ?_
  refine lj_arg (j := 3) hx hb hX hbl hbB hA.2.1 hl hL (by omega) dL_law_172 dL_law_173 dL_law_174 (by decide) dL_law_175 dL_law_176 ?_
  refine lj_arg (j := 4) hx hb hX hbl hbB hA.2.1 hl hL (by omega) dL_law_177 dL_law_178 dL_law_179 (by decide) dL_law_180 dL_law_181 ?_
  refine lj_arg (j := 5) hx hb hX hbl hbB hA.2.1 hl hL (by omega) dL_law_182 dL_law_183 dL_law_184 (by decide) dL_law_185 dL_law_186 ?_
  refine lj_call0 (k := 237) (idx := 17) (o := 630) (as := [.int (xs (i + 1)), .int (xs (i + 2)), .int (xs (i + 3)), .int (xs (i + 4)), .int (xs (i + 5))]) (rest := [.int z]) F hA hl.1 rfl M2 n2 z2 k2 (by decide) rfl (by decide) hRc hRs (by decide) rfl dL_law_187 (fun H locs hA => ?_)
  exact lv_icmp_eq (tgt := 731) hx hb dL_law_190 (by decide) (fun _ => fin _ _ _ R2 hA) (fun c1 => absurd rfl c1)
theorem lj_c1 (F : lj_Fr D B aS aV tc p s m args c) (hX : va_X b L xs s s.heap) (hbl : b < s.heap.size) (hbB : ¬ B < b) (hL : L ≤ 3072) (hi : i + 5 < L) (hu : u + 40 < 2 ^ 20) (R : r_R t_W t_K h u) (hA : q_At D B aS tc s h H locs cells) (hl : lv_has ls 4 [(0, .ref b), (1, .ref (B + 1)), (2, .ref (B + 630)), (3, .int (nI i))]) (hRc : cells ≤ 600000) (hRs : slots ≤ 7302250) (fin : ∀ h2 H2 locs2, r_R t_W t_K h2 u → q_At D B aS tc s h2 H2 locs2 cells → W p l e room_1 s m args below meth c H2 locs2 cells slots Q (F0 m 731 ls [])) : W p l e room_1 s m args below meth c H locs cells slots Q (F0 m 195 ls []) := by
  have hx := F.1
  have hb := F.2.1
  obtain ⟨z, h1, h2, M1, M2, R2, k1, k2, n1, z1, n2, z2⟩ := lj_two (l := l) (D := D) (B := B) (aS := aS) (aV := aV) (tc := tc) (as := [.int (xs (i + 1))]) R (r_back) rfl rfl rfl rfl
  refine lv_aload_n hx hb dL_law_195 rfl (lv_at hl 1 rfl) ?_
  refine lj_arg (j := 1) hx hb hX hbl hbB hA.2.1 hl hL (by omega) dL_law_196 dL_law_197 dL_law_198 (by decide) dL_law_199 dL_law_200 ?_
  refine lj_call0 (k := 212) (idx := 18) (o := 1) (as := [.int (xs (i + 1))]) (rest := []) F hA hl.1 rfl M1 n1 z1 k1 (by decide) rfl (by decide) hRc hRs (by decide) rfl dL_law_201 (fun H locs hA => ?_)
  refine lv_aload_n hx hb dL_law_204 rfl (lv_at hl 2 rfl) ?_
  refine lj_arg (j := 1) hx hb hX hbl hbB hA.2.1 hl hL (by omega) dL_law_205 dL_law_206 dL_law_207 (by decide) dL_law_208 dL_law_209 ?_
  refine lj_call0 (k := 239) (idx := 22) (o := 630) (as := [.int (xs (i + 1))]) (rest := [.int z]) F hA hl.1 rfl M2 n2 z2 k2 (by decide) rfl (by decide) hRc hRs (by decide) rfl dL_law_210 (fun H locs hA => ?_)
  exact lv_icmp_eq (tgt := 731) hx hb dL_law_213 (by decide) (fun _ => fin _ _ _ R2 hA) (fun c1 => absurd rfl c1)
theorem lj_c2 (F : lj_Fr D B aS aV tc p s m args c) (hX : va_X b L xs s s.heap) (hbl : b < s.heap.size) (hbB : ¬ B < b) (hL : L ≤ 3072) (hi : i + 5 < L) (hu : u + 40 < 2 ^ 20) (R : r_R t_W t_K h u) (hA : q_At D B aS tc s h H locs cells) (hl : lv_has ls 4 [(0, .ref b), (1, .ref (B + 1)), (2, .ref (B + 630)), (3, .int (nI i))]) (hRc : cells ≤ 600000) (hRs : slots ≤ 7302250) (fin : ∀ h2 H2 locs2, r_R t_W t_K h2 u → q_At D B aS tc s h2 H2 locs2 cells → W p l e room_1 s m args below meth c H2 locs2 cells slots Q (F0 m 731 ls [])) : W p l e room_1 s m args below meth c H locs cells slots Q (F0 m 218 ls []) := by
  have hx := F.1
  have hb := F.2.1
  obtain ⟨z, h1, h2, M1, M2, R2, k1, k2, n1, z1, n2, z2⟩ := lj_two (l := l) (D := D) (B := B) (aS := aS) (aV := aV) (tc := tc) (as := []) R (r_read) rfl rfl rfl rfl
  refine lv_aload_n hx hb dL_law_218 rfl (lv_at hl 1 rfl) ?_
  refine lj_call0 (k := 213) (idx := 23) (o := 1) (as := []) (rest := []) F hA hl.1 rfl M1 n1 z1 k1 (by decide) rfl (by decide) hRc hRs (by decide) rfl dL_law_219 (fun H locs hA => ?_)
  refine lv_aload_n hx hb dL_law_222 rfl (lv_at hl 2 rfl) ?_
  refine lj_call0 (k := 260) (idx := 27) (o := 630) (as := []) (rest := [.int z]) F hA hl.1 rfl M2 n2 z2 k2 (by decide) rfl (by decide) hRc hRs (by decide) rfl dL_law_223 (fun H locs hA => ?_)
  exact lv_icmp_eq (tgt := 731) hx hb dL_law_226 (by decide) (fun _ => fin _ _ _ R2 hA) (fun c1 => absurd rfl c1)
theorem lj_c3 (F : lj_Fr D B aS aV tc p s m args c) (hX : va_X b L xs s s.heap) (hbl : b < s.heap.size) (hbB : ¬ B < b) (hL : L ≤ 3072) (hi : i + 5 < L) (hu : u + 40 < 2 ^ 20) (R : r_R t_W t_K h u) (hA : q_At D B aS tc s h H locs cells) (hl : lv_has ls 4 [(0, .ref b), (1, .ref (B + 1)), (2, .ref (B + 630)), (3, .int (nI i))]) (hRc : cells ≤ 600000) (hRs : slots ≤ 7302250) (fin : ∀ h2 H2 locs2, r_R t_W t_K h2 u → q_At D B aS tc s h2 H2 locs2 cells → W p l e room_1 s m args below meth c H2 locs2 cells slots Q (F0 m 731 ls [])) : W p l e room_1 s m args below meth c H locs cells slots Q (F0 m 231 ls []) := by
  have hx := F.1
  have hb := F.2.1
  obtain ⟨z, h1, h2, M1, M2, R2, k1, k2, n1, z1, n2, z2⟩ := lj_two (l := l) (D := D) (B := B) (aS := aS) (aV := aV) (tc := tc) (as := []) R (r_place) rfl rfl rfl rfl
  refine lv_aload_n hx hb dL_law_231 rfl (lv_at hl 1 rfl) ?_
  refine lj_call0 (k := 214) (idx := 28) (o := 1) (as := []) (rest := []) F hA hl.1 rfl M1 n1 z1 k1 (by decide) rfl (by decide) hRc hRs (by decide) rfl dL_law_232 (fun H locs hA => ?_)
  refine lv_aload_n hx hb dL_law_235 rfl (lv_at hl 2 rfl) ?_
  refine lj_call0 (k := 261) (idx := 31) (o := 630) (as := []) (rest := [.int z]) F hA hl.1 rfl M2 n2 z2 k2 (by decide) rfl (by decide) hRc hRs (by decide) rfl dL_law_236 (fun H locs hA => ?_)
  exact lv_icmp_eq (tgt := 731) hx hb dL_law_239 (by decide) (fun _ => fin _ _ _ R2 hA) (fun c1 => absurd rfl c1)
theorem lj_c4 (F : lj_Fr D B aS aV tc p s m args c) (hX : va_X b L xs s s.heap) (hbl : b < s.heap.size) (hbB : ¬ B < b) (hL : L ≤ 3072) (hi : i + 5 < L) (hu : u + 40 < 2 ^ 20) (R : r_R t_W t_K h u) (hA : q_At D B aS tc s h H locs cells) (hl : lv_has ls 4 [(0, .ref b), (1, .ref (B + 1)), (2, .ref (B + 630)), (3, .int (nI i))]) (hRc : cells ≤ 600000) (hRs : slots ≤ 7302250) (fin : ∀ h2 H2 locs2, r_R t_W t_K h2 u → q_At D B aS tc s h2 H2 locs2 cells → W p l e room_1 s m args below meth c H2 locs2 cells slots Q (F0 m 731 ls [])) : W p l e room_1 s m args below meth c H locs cells slots Q (F0 m 244 ls []) := by
  have hx := F.1
  have hb := F.2.1
  obtain ⟨z, h1, h2, M1, M2, R2, k1, k2, n1, z1, n2, z2⟩ := lj_two (l := l) (D := D) (B := B) (aS := aS) (aV := aV) (tc := tc) (as := [.int (xs (i + 1))]) R (r_node) rfl rfl rfl rfl
  refine lv_aload_n hx hb dL_law_244 rfl (lv_at hl 1 rfl) ?_
  refine lj_arg (j := 1) hx hb hX hbl hbB hA.2.1 hl hL (by omega) dL_law_245 dL_law_246 dL_law_247 (by decide) dL_law_248 dL_law_249 ?_
  refine lj_call0 (k := 215) (idx := 32) (o := 1) (as := [.int (xs (i + 1))]) (rest := []) F hA hl.1 rfl M1 n1 z1 k1 (by decide) rfl (by decide) hRc hRs (by decide) rfl dL_law_250 (fun H locs hA => ?_)
  refine lv_aload_n hx hb dL_law_253 rfl (lv_at hl 2 rfl) ?_
  refine lj_arg (j := 1) hx hb hX hbl hbB hA.2.1 hl hL (by omega) dL_law_254 dL_law_255 dL_law_256 (by decide) dL_law_257 dL_law_258 ?_
  refine lj_call0 (k := 301) (idx := 35) (o := 630) (as := [.int (xs (i + 1))]) (rest := [.int z]) F hA hl.1 rfl M2 n2 z2 k2 (by decide) rfl (by decide) hRc hRs (by decide) rfl dL_law_259 (fun H locs hA => ?_)
  exact lv_icmp_eq (tgt := 731) hx hb dL_law_262 (by decide) (fun _ => fin _ _ _ R2 hA) (fun c1 => absurd rfl c1)
theorem lj_c5 (F : lj_Fr D B aS aV tc p s m args c) (hX : va_X b L xs s s.heap) (hbl : b < s.heap.size) (hbB : ¬ B < b) (hL : L ≤ 3072) (hi : i + 5 < L) (hu : u + 40 < 2 ^ 20) (R : r_R t_W t_K h u) (hA : q_At D B aS tc s h H locs cells) (hl : lv_has ls 4 [(0, .ref b), (1, .ref (B + 1)), (2, .ref (B + 630)), (3, .int (nI i))]) (hRc : cells ≤ 600000) (hRs : slots ≤ 7302250) (fin : ∀ h2 H2 locs2, r_R t_W t_K h2 u → q_At D B aS tc s h2 H2 locs2 cells → W p l e room_1 s m args below meth c H2 locs2 cells slots Q (F0 m 731 ls [])) : W p l e room_1 s m args below meth c H locs cells slots Q (F0 m 267 ls []) := by
  have hx := F.1
  have hb := F.2.1
  obtain ⟨z, h1, h2, M1, M2, R2, k1, k2, n1, z1, n2, z2⟩ := lj_two (l := l) (D := D) (B := B) (aS := aS) (aV := aV) (tc := tc) (as := [.int (xs (i + 1)), .int (xs (i + 2)), .int (xs (i + 3))]) R (r_link) rfl rfl rfl rfl
  refine lv_aload_n hx hb dL_law_267 rfl (lv_at hl 1 rfl) ?_
  refine lj_arg (j := 1) hx hb hX hbl hbB hA.2.1 hl hL (by omega) dL_law_268 dL_law_269 dL_law_270 (by decide) dL_law_271 dL_law_272 ?_
  refine lj_arg (j := 2) hx hb hX hbl hbB hA.2.1 hl hL (by omega) dL_law_273 dL_law_274 dL_law_275 (by decide) dL_law_276 dL_law_277 ?_
  refine lj_arg (j := 3) hx hb hX hbl hbB hA.2.1 hl hL (by omega) dL_law_278 dL_law_279 dL_law_280 (by decide) dL_law_281 dL_law_282 ?_
  refine lj_call0 (k := 216) (idx := 36) (o := 1) (as := [.int (xs (i + 1)), .int (xs (i + 2)), .int (xs (i + 3))]) (rest := []) F hA hl.1 rfl M1 n1 z1 k1 (by decide) rfl (by decide) hRc hRs (by decide) rfl dL_law_283 (fun H locs hA => ?_)
  refine lv_aload_n hx hb dL_law_286 rfl (lv_at hl 2 rfl) ?_
  refine lj_arg (j := 1) hx hb hX hbl hbB hA.2.1 hl hL (by omega) dL_law_287 dL_law_288 dL_law_289 (by decide) dL_law_290 dL_law_291 ?_
  refine lj_arg (j := 2) hx hb hX hbl hbB hA.2.1 hl hL (by omega) dL_law_292 dL_law_293 dL_law_294 (by decide) dL_law_295 dL_law_296 ?_
  refine lj_arg (j := 3) hx hb hX hbl hbB hA.2.1 hl hL (by omega) dL_law_297 dL_law_298 dL_law_299 (by decide) dL_law_300 dL_law_301 ?_
  refine lj_call0 (k := 302) (idx := 40) (o := 630) (as := [.int (xs (i + 1)), .int (xs (i + 2)), .int (xs (i + 3))]) (rest := [.int z]) F hA hl.1 rfl M2 n2 z2 k2 (by decide) rfl (by decide) hRc hRs (by decide) rfl dL_law_302 (fun H locs hA => ?_)
  exact lv_icmp_eq (tgt := 731) hx hb dL_law_305 (by decide) (fun _ => fin _ _ _ R2 hA) (fun c1 => absurd rfl c1)
theorem lj_c6 (F : lj_Fr D B aS aV tc p s m args c) (hX : va_X b L xs s s.heap) (hbl : b < s.heap.size) (hbB : ¬ B < b) (hL : L ≤ 3072) (hi : i + 5 < L) (hu : u + 40 < 2 ^ 20) (R : r_R t_W t_K h u) (hA : q_At D B aS tc s h H locs cells) (hl : lv_has ls 4 [(0, .ref b), (1, .ref (B + 1)), (2, .ref (B + 630)), (3, .int (nI i))]) (hRc : cells ≤ 600000) (hRs : slots ≤ 7302250) (fin : ∀ h2 H2 locs2, r_R t_W t_K h2 u → q_At D B aS tc s h2 H2 locs2 cells → W p l e room_1 s m args below meth c H2 locs2 cells slots Q (F0 m 731 ls [])) : W p l e room_1 s m args below meth c H locs cells slots Q (F0 m 310 ls []) := by
  have hx := F.1
  have hb := F.2.1
  obtain ⟨z, h1, h2, M1, M2, R2, k1, k2, n1, z1, n2, z2⟩ := lj_two (l := l) (D := D) (B := B) (aS := aS) (aV := aV) (tc := tc) (as := [.int (xs (i + 1)), .int (xs (i + 2)), .int (xs (i + 3))]) R (r_attr) rfl rfl rfl rfl
  refine lv_aload_n hx hb dL_law_310 rfl (lv_at hl 1 rfl) ?_
  refine lj_arg (j := 1) hx hb hX hbl hbB hA.2.1 hl hL (by omega) dL_law_311 dL_law_312 dL_law_313 (by decide) dL_law_314 dL_law_315 ?_
  refine lj_arg (j := 2) hx hb hX hbl hbB hA.2.1 hl hL (by omega) dL_law_316 dL_law_317 dL_law_318 (by decide) dL_law_319 dL_law_320 ?_
  refine lj_arg (j := 3) hx hb hX hbl hbB hA.2.1 hl hL (by omega) dL_law_321 dL_law_322 dL_law_323 (by decide) dL_law_324 dL_law_325 ?_
  refine lj_call0 (k := 217) (idx := 41) (o := 1) (as := [.int (xs (i + 1)), .int (xs (i + 2)), .int (xs (i + 3))]) (rest := []) F hA hl.1 rfl M1 n1 z1 k1 (by decide) rfl (by decide) hRc hRs (by decide) rfl dL_law_326 (fun H locs hA => ?_)
  refine lv_aload_n hx hb dL_law_329 rfl (lv_at hl 2 rfl) ?_
  refine lj_arg (j := 1) hx hb hX hbl hbB hA.2.1 hl hL (by omega) dL_law_330 dL_law_331 dL_law_332 (by decide) dL_law_333 dL_law_334 ?_
  refine lj_arg (j := 2) hx hb hX hbl hbB hA.2.1 hl hL (by omega) dL_law_335 dL_law_336 dL_law_337 (by decide) dL_law_338 dL_law_339 ?_
  refine lj_arg (j := 3) hx hb hX hbl hbB hA.2.1 hl hL (by omega) dL_law_340 dL_law_341 dL_law_342 (by decide) dL_law_343 dL_law_344 ?_
  refine lj_call0 (k := 303) (idx := 45) (o := 630) (as := [.int (xs (i + 1)), .int (xs (i + 2)), .int (xs (i + 3))]) (rest := [.int z]) F hA hl.1 rfl M2 n2 z2 k2 (by decide) rfl (by decide) hRc hRs (by decide) rfl dL_law_345 (fun H locs hA => ?_)
  exact lv_icmp_eq (tgt := 731) hx hb dL_law_348 (by decide) (fun _ => fin _ _ _ R2 hA) (fun c1 => absurd rfl c1)
theorem lj_c7 (F : lj_Fr D B aS aV tc p s m args c) (hX : va_X b L xs s s.heap) (hbl : b < s.heap.size) (hbB : ¬ B < b) (hL : L ≤ 3072) (hi : i + 5 < L) (hu : u + 40 < 2 ^ 20) (R : r_R t_W t_K h u) (hA : q_At D B aS tc s h H locs cells) (hl : lv_has ls 4 [(0, .ref b), (1, .ref (B + 1)), (2, .ref (B + 630)), (3, .int (nI i))]) (hRc : cells ≤ 600000) (hRs : slots ≤ 7302250) (fin : ∀ h2 H2 locs2, r_R t_W t_K h2 u → q_At D B aS tc s h2 H2 locs2 cells → W p l e room_1 s m args below meth c H2 locs2 cells slots Q (F0 m 731 ls [])) : W p l e room_1 s m args below meth c H locs cells slots Q (F0 m 353 ls []) := by
  have hx := F.1
  have hb := F.2.1
  obtain ⟨z, h1, h2, M1, M2, R2, k1, k2, n1, z1, n2, z2⟩ := lj_two (l := l) (D := D) (B := B) (aS := aS) (aV := aV) (tc := tc) (as := [.int (xs (i + 1))]) R (r_remove) rfl rfl rfl rfl
  refine lv_aload_n hx hb dL_law_353 rfl (lv_at hl 1 rfl) ?_
  refine lj_arg (j := 1) hx hb hX hbl hbB hA.2.1 hl hL (by omega) dL_law_354 dL_law_355 dL_law_356 (by decide) dL_law_357 dL_law_358 ?_
  refine lj_call0 (k := 218) (idx := 46) (o := 1) (as := [.int (xs (i + 1))]) (rest := []) F hA hl.1 rfl M1 n1 z1 k1 (by decide) rfl (by decide) hRc hRs (by decide) rfl dL_law_359 (fun H locs hA => ?_)
  refine lv_aload_n hx hb dL_law_362 rfl (lv_at hl 2 rfl) ?_
  refine lj_arg (j := 1) hx hb hX hbl hbB hA.2.1 hl hL (by omega) dL_law_363 dL_law_364 dL_law_365 (by decide) dL_law_366 dL_law_367 ?_
  refine lj_call0 (k := 305) (idx := 50) (o := 630) (as := [.int (xs (i + 1))]) (rest := [.int z]) F hA hl.1 rfl M2 n2 z2 k2 (by decide) rfl (by decide) hRc hRs (by decide) rfl dL_law_368 (fun H locs hA => ?_)
  exact lv_icmp_eq (tgt := 731) hx hb dL_law_371 (by decide) (fun _ => fin _ _ _ R2 hA) (fun c1 => absurd rfl c1)
theorem lj_c8 (F : lj_Fr D B aS aV tc p s m args c) (hX : va_X b L xs s s.heap) (hbl : b < s.heap.size) (hbB : ¬ B < b) (hL : L ≤ 3072) (hi : i + 5 < L) (hu : u + 40 < 2 ^ 20) (R : r_R t_W t_K h u) (hA : q_At D B aS tc s h H locs cells) (hl : lv_has ls 4 [(0, .ref b), (1, .ref (B + 1)), (2, .ref (B + 630)), (3, .int (nI i))]) (hRc : cells ≤ 600000) (hRs : slots ≤ 7302250) (fin : ∀ h2 H2 locs2, r_R t_W t_K h2 u → q_At D B aS tc s h2 H2 locs2 cells → W p l e room_1 s m args below meth c H2 locs2 cells slots Q (F0 m 731 ls [])) : W p l e room_1 s m args below meth c H locs cells slots Q (F0 m 376 ls []) := by
  have hx := F.1
  have hb := F.2.1
  obtain ⟨z, h1, h2, M1, M2, R2, k1, k2, n1, z1, n2, z2⟩ := lj_two (l := l) (D := D) (B := B) (aS := aS) (aV := aV) (tc := tc) (as := [.int (xs (i + 1))]) R (r_cut) rfl rfl rfl rfl
  refine lv_aload_n hx hb dL_law_376 rfl (lv_at hl 1 rfl) ?_
  refine lj_arg (j := 1) hx hb hX hbl hbB hA.2.1 hl hL (by omega) dL_law_377 dL_law_378 dL_law_379 (by decide) dL_law_380 dL_law_381 ?_
  refine lj_call0 (k := 219) (idx := 51) (o := 1) (as := [.int (xs (i + 1))]) (rest := []) F hA hl.1 rfl M1 n1 z1 k1 (by decide) rfl (by decide) hRc hRs (by decide) rfl dL_law_382 (fun H locs hA => ?_)
  refine lv_aload_n hx hb dL_law_385 rfl (lv_at hl 2 rfl) ?_
  refine lj_arg (j := 1) hx hb hX hbl hbB hA.2.1 hl hL (by omega) dL_law_386 dL_law_387 dL_law_388 (by decide) dL_law_389 dL_law_390 ?_
  refine lj_call0 (k := 308) (idx := 54) (o := 630) (as := [.int (xs (i + 1))]) (rest := [.int z]) F hA hl.1 rfl M2 n2 z2 k2 (by decide) rfl (by decide) hRc hRs (by decide) rfl dL_law_391 (fun H locs hA => ?_)
  exact lv_icmp_eq (tgt := 731) hx hb dL_law_394 (by decide) (fun _ => fin _ _ _ R2 hA) (fun c1 => absurd rfl c1)
theorem lj_c9 (F : lj_Fr D B aS aV tc p s m args c) (hX : va_X b L xs s s.heap) (hbl : b < s.heap.size) (hbB : ¬ B < b) (hL : L ≤ 3072) (hi : i + 5 < L) (hu : u + 40 < 2 ^ 20) (R : r_R t_W t_K h u) (hA : q_At D B aS tc s h H locs cells) (hl : lv_has ls 4 [(0, .ref b), (1, .ref (B + 1)), (2, .ref (B + 630)), (3, .int (nI i))]) (hRc : cells ≤ 600000) (hRs : slots ≤ 7302250) (fin : ∀ h2 H2 locs2, r_R t_W t_K h2 u → q_At D B aS tc s h2 H2 locs2 cells → W p l e room_1 s m args below meth c H2 locs2 cells slots Q (F0 m 731 ls [])) : W p l e room_1 s m args below meth c H locs cells slots Q (F0 m 399 ls []) := by
  have hx := F.1
  have hb := F.2.1
  obtain ⟨z, h1, h2, M1, M2, R2, k1, k2, n1, z1, n2, z2⟩ := lj_two (l := l) (D := D) (B := B) (aS := aS) (aV := aV) (tc := tc) (as := [.int (xs (i + 1)), .int (xs (i + 2))]) R (r_nodeOf) rfl rfl rfl rfl
  refine lv_aload_n hx hb dL_law_399 rfl (lv_at hl 1 rfl) ?_
  refine lj_arg (j := 1) hx hb hX hbl hbB hA.2.1 hl hL (by omega) dL_law_400 dL_law_401 dL_law_402 (by decide) dL_law_403 dL_law_404 ?_
  refine lj_arg (j := 2) hx hb hX hbl hbB hA.2.1 hl hL (by omega) dL_law_405 dL_law_406 dL_law_407 (by decide) dL_law_408 dL_law_409 ?_
  refine lj_call0 (k := 220) (idx := 55) (o := 1) (as := [.int (xs (i + 1)), .int (xs (i + 2))]) (rest := []) F hA hl.1 rfl M1 n1 z1 k1 (by decide) rfl (by decide) hRc hRs (by decide) rfl dL_law_410 (fun H locs hA => ?_)
  refine lv_aload_n hx hb dL_law_413 rfl (lv_at hl 2 rfl) ?_
  refine lj_arg (j := 1) hx hb hX hbl hbB hA.2.1 hl hL (by omega) dL_law_414 dL_law_415 dL_law_416 (by decide) dL_law_417 dL_law_418 ?_
  refine lj_arg (j := 2) hx hb hX hbl hbB hA.2.1 hl hL (by omega) dL_law_419 dL_law_420 dL_law_421 (by decide) dL_law_422 dL_law_423 ?_
  refine lj_call0 (k := 309) (idx := 59) (o := 630) (as := [.int (xs (i + 1)), .int (xs (i + 2))]) (rest := [.int z]) F hA hl.1 rfl M2 n2 z2 k2 (by decide) rfl (by decide) hRc hRs (by decide) rfl dL_law_424 (fun H locs hA => ?_)
  exact lv_icmp_eq (tgt := 731) hx hb dL_law_427 (by decide) (fun _ => fin _ _ _ R2 hA) (fun c1 => absurd rfl c1)
theorem lj_c10 (F : lj_Fr D B aS aV tc p s m args c) (hX : va_X b L xs s s.heap) (hbl : b < s.heap.size) (hbB : ¬ B < b) (hL : L ≤ 3072) (hi : i + 5 < L) (hu : u + 40 < 2 ^ 20) (R : r_R t_W t_K h u) (hA : q_At D B aS tc s h H locs cells) (hl : lv_has ls 4 [(0, .ref b), (1, .ref (B + 1)), (2, .ref (B + 630)), (3, .int (nI i))]) (hRc : cells ≤ 600000) (hRs : slots ≤ 7302250) (fin : ∀ h2 H2 locs2, r_R t_W t_K h2 u → q_At D B aS tc s h2 H2 locs2 cells → W p l e room_1 s m args below meth c H2 locs2 cells slots Q (F0 m 731 ls [])) : W p l e room_1 s m args below meth c H locs cells slots Q (F0 m 432 ls []) := by
  have hx := F.1
  have hb := F.2.1
  obtain ⟨z, h1, h2, M1, M2, R2, k1, k2, n1, z1, n2, z2⟩ := lj_two (l := l) (D := D) (B := B) (aS := aS) (aV := aV) (tc := tc) (as := [.int (xs (i + 1)), .int (xs (i + 2))]) R (r_linkOf) rfl rfl rfl rfl
  refine lv_aload_n hx hb dL_law_432 rfl (lv_at hl 1 rfl) ?_
  refine lj_arg (j := 1) hx hb hX hbl hbB hA.2.1 hl hL (by omega) dL_law_433 dL_law_434 dL_law_435 (by decide) dL_law_436 dL_law_437 ?_
  refine lj_arg (j := 2) hx hb hX hbl hbB hA.2.1 hl hL (by omega) dL_law_438 dL_law_439 dL_law_440 (by decide) dL_law_441 dL_law_442 ?_
  refine lj_call0 (k := 221) (idx := 60) (o := 1) (as := [.int (xs (i + 1)), .int (xs (i + 2))]) (rest := []) F hA hl.1 rfl M1 n1 z1 k1 (by decide) rfl (by decide) hRc hRs (by decide) rfl dL_law_443 (fun H locs hA => ?_)
  refine lv_aload_n hx hb dL_law_446 rfl (lv_at hl 2 rfl) ?_
  refine lj_arg (j := 1) hx hb hX hbl hbB hA.2.1 hl hL (by omega) dL_law_447 dL_law_448 dL_law_449 (by decide) dL_law_450 dL_law_451 ?_
  refine lj_arg (j := 2) hx hb hX hbl hbB hA.2.1 hl hL (by omega) dL_law_452 dL_law_453 dL_law_454 (by decide) dL_law_455 dL_law_456 ?_
  refine lj_call0 (k := 310) (idx := 63) (o := 630) (as := [.int (xs (i + 1)), .int (xs (i + 2))]) (rest := [.int z]) F hA hl.1 rfl M2 n2 z2 k2 (by decide) rfl (by decide) hRc hRs (by decide) rfl dL_law_457 (fun H locs hA => ?_)
  exact lv_icmp_eq (tgt := 731) hx hb dL_law_460 (by decide) (fun _ => fin _ _ _ R2 hA) (fun c1 => absurd rfl c1)
theorem lj_c11 (F : lj_Fr D B aS aV tc p s m args c) (hX : va_X b L xs s s.heap) (hbl : b < s.heap.size) (hbB : ¬ B < b) (hL : L ≤ 3072) (hi : i + 5 < L) (hu : u + 40 < 2 ^ 20) (R : r_R t_W t_K h u) (hA : q_At D B aS tc s h H locs cells) (hl : lv_has ls 4 [(0, .ref b), (1, .ref (B + 1)), (2, .ref (B + 630)), (3, .int (nI i))]) (hRc : cells ≤ 600000) (hRs : slots ≤ 7302250) (fin : ∀ h2 H2 locs2, r_R t_W t_K h2 u → q_At D B aS tc s h2 H2 locs2 cells → W p l e room_1 s m args below meth c H2 locs2 cells slots Q (F0 m 731 ls [])) : W p l e room_1 s m args below meth c H locs cells slots Q (F0 m 465 ls []) := by
  have hx := F.1
  have hb := F.2.1
  obtain ⟨z, h1, h2, M1, M2, R2, k1, k2, n1, z1, n2, z2⟩ := lj_two (l := l) (D := D) (B := B) (aS := aS) (aV := aV) (tc := tc) (as := [.int (xs (i + 1))]) R (r_matches) rfl rfl rfl rfl
  refine lv_aload_n hx hb dL_law_465 rfl (lv_at hl 1 rfl) ?_
  refine lj_arg (j := 1) hx hb hX hbl hbB hA.2.1 hl hL (by omega) dL_law_466 dL_law_467 dL_law_468 (by decide) dL_law_469 dL_law_470 ?_
  refine lj_call0 (k := 222) (idx := 64) (o := 1) (as := [.int (xs (i + 1))]) (rest := []) F hA hl.1 rfl M1 n1 z1 k1 (by decide) rfl (by decide) hRc hRs (by decide) rfl dL_law_471 (fun H locs hA => ?_)
  refine lv_aload_n hx hb dL_law_474 rfl (lv_at hl 2 rfl) ?_
  refine lj_arg (j := 1) hx hb hX hbl hbB hA.2.1 hl hL (by omega) dL_law_475 dL_law_476 dL_law_477 (by decide) dL_law_478 dL_law_479 ?_
  refine lj_call0 (k := 322) (idx := 67) (o := 630) (as := [.int (xs (i + 1))]) (rest := [.int z]) F hA hl.1 rfl M2 n2 z2 k2 (by decide) rfl (by decide) hRc hRs (by decide) rfl dL_law_480 (fun H locs hA => ?_)
  exact lv_icmp_eq (tgt := 731) hx hb dL_law_483 (by decide) (fun _ => fin _ _ _ R2 hA) (fun c1 => absurd rfl c1)
theorem lj_c12 (F : lj_Fr D B aS aV tc p s m args c) (hX : va_X b L xs s s.heap) (hbl : b < s.heap.size) (hbB : ¬ B < b) (hL : L ≤ 3072) (hi : i + 5 < L) (hu : u + 40 < 2 ^ 20) (R : r_R t_W t_K h u) (hA : q_At D B aS tc s h H locs cells) (hl : lv_has ls 4 [(0, .ref b), (1, .ref (B + 1)), (2, .ref (B + 630)), (3, .int (nI i))]) (hRc : cells ≤ 600000) (hRs : slots ≤ 7302250) (fin : ∀ h2 H2 locs2, r_R t_W t_K h2 u → q_At D B aS tc s h2 H2 locs2 cells → W p l e room_1 s m args below meth c H2 locs2 cells slots Q (F0 m 731 ls [])) : W p l e room_1 s m args below meth c H locs cells slots Q (F0 m 488 ls []) := by
  have hx := F.1
  have hb := F.2.1
  obtain ⟨z, h1, h2, M1, M2, R2, k1, k2, n1, z1, n2, z2⟩ := lj_two (l := l) (D := D) (B := B) (aS := aS) (aV := aV) (tc := tc) (as := [.int (xs (i + 1)), .int (xs (i + 2))]) R (r_match) rfl rfl rfl rfl
  refine lv_aload_n hx hb dL_law_488 rfl (lv_at hl 1 rfl) ?_
  refine lj_arg (j := 1) hx hb hX hbl hbB hA.2.1 hl hL (by omega) dL_law_489 dL_law_490 dL_law_491 (by decide) dL_law_492 dL_law_493 ?_
  refine lj_arg (j := 2) hx hb hX hbl hbB hA.2.1 hl hL (by omega) dL_law_494 dL_law_495 dL_law_496 (by decide) dL_law_497 dL_law_498 ?_
  refine lj_call0 (k := 223) (idx := 68) (o := 1) (as := [.int (xs (i + 1)), .int (xs (i + 2))]) (rest := []) F hA hl.1 rfl M1 n1 z1 k1 (by decide) rfl (by decide) hRc hRs (by decide) rfl dL_law_499 (fun H locs hA => ?_)
  refine lv_aload_n hx hb dL_law_502 rfl (lv_at hl 2 rfl) ?_
  refine lj_arg (j := 1) hx hb hX hbl hbB hA.2.1 hl hL (by omega) dL_law_503 dL_law_504 dL_law_505 (by decide) dL_law_506 dL_law_507 ?_
  refine lj_arg (j := 2) hx hb hX hbl hbB hA.2.1 hl hL (by omega) dL_law_508 dL_law_509 dL_law_510 (by decide) dL_law_511 dL_law_512 ?_
  refine lj_call0 (k := 323) (idx := 72) (o := 630) (as := [.int (xs (i + 1)), .int (xs (i + 2))]) (rest := [.int z]) F hA hl.1 rfl M2 n2 z2 k2 (by decide) rfl (by decide) hRc hRs (by decide) rfl dL_law_513 (fun H locs hA => ?_)
  exact lv_icmp_eq (tgt := 731) hx hb dL_law_516 (by decide) (fun _ => fin _ _ _ R2 hA) (fun c1 => absurd rfl c1)
theorem lj_c14 (F : lj_Fr D B aS aV tc p s m args c) (hX : va_X b L xs s s.heap) (hbl : b < s.heap.size) (hbB : ¬ B < b) (hL : L ≤ 3072) (hi : i + 5 < L) (hu : u + 40 < 2 ^ 20) (R : r_R t_W t_K h u) (hA : q_At D B aS tc s h H locs cells) (hl : lv_has ls 4 [(0, .ref b), (1, .ref (B + 1)), (2, .ref (B + 630)), (3, .int (nI i))]) (hRc : cells ≤ 600000) (hRs : slots ≤ 7302250) (fin : ∀ h2 H2 locs2, r_R t_W t_K h2 (u + 1) → q_At D B aS tc s h2 H2 locs2 cells → W p l e room_1 s m args below meth c H2 locs2 cells slots Q (F0 m 731 ls [])) : W p l e room_1 s m args below meth c H locs cells slots Q (F0 m 570 ls []) := by
  have hx := F.1
  have hb := F.2.1
  obtain ⟨z, h1, h2, M1, M2, R2, k1, k2, n1, z1, n2, z2⟩ := lj_two (l := l) (D := D) (B := B) (aS := aS) (aV := aV) (tc := tc) (as := [.int (xs (i + 1))]) R (r_apply (by omega)) rfl rfl rfl rfl
  refine lv_aload_n hx hb dL_law_570 rfl (lv_at hl 1 rfl) ?_
  refine lj_arg (j := 1) hx hb hX hbl hbB hA.2.1 hl hL (by omega) dL_law_571 dL_law_572 dL_law_573 (by decide) dL_law_574 dL_law_575 ?_
  refine lj_call0 (k := 225) (idx := 78) (o := 1) (as := [.int (xs (i + 1))]) (rest := []) F hA hl.1 rfl M1 n1 z1 k1 (by decide) rfl (by decide) hRc hRs (by decide) rfl dL_law_576 (fun H locs hA => ?_)
  refine lv_aload_n hx hb dL_law_579 rfl (lv_at hl 2 rfl) ?_
  refine lj_arg (j := 1) hx hb hX hbl hbB hA.2.1 hl hL (by omega) dL_law_580 dL_law_581 dL_law_582 (by decide) dL_law_583 dL_law_584 ?_
  refine lj_call0 (k := 330) (idx := 81) (o := 630) (as := [.int (xs (i + 1))]) (rest := [.int z]) F hA hl.1 rfl M2 n2 z2 k2 (by decide) rfl (by decide) hRc hRs (by decide) rfl dL_law_585 (fun H locs hA => ?_)
  exact lv_icmp_eq (tgt := 731) hx hb dL_law_588 (by decide) (fun _ => fin _ _ _ R2 hA) (fun c1 => absurd rfl c1)
theorem lj_c15 (F : lj_Fr D B aS aV tc p s m args c) (hX : va_X b L xs s s.heap) (hbl : b < s.heap.size) (hbB : ¬ B < b) (hL : L ≤ 3072) (hi : i + 5 < L) (hu : u + 40 < 2 ^ 20) (R : r_R t_W t_K h u) (hA : q_At D B aS tc s h H locs cells) (hl : lv_has ls 4 [(0, .ref b), (1, .ref (B + 1)), (2, .ref (B + 630)), (3, .int (nI i))]) (hRc : cells ≤ 600000) (hRs : slots ≤ 7302250) (fin : ∀ h2 H2 locs2, r_R t_W t_K h2 u → q_At D B aS tc s h2 H2 locs2 cells → W p l e room_1 s m args below meth c H2 locs2 cells slots Q (F0 m 731 ls [])) : W p l e room_1 s m args below meth c H locs cells slots Q (F0 m 593 ls []) := by
  have hx := F.1
  have hb := F.2.1
  obtain ⟨z, h1, h2, M1, M2, R2, k1, k2, n1, z1, n2, z2⟩ := lj_two (l := l) (D := D) (B := B) (aS := aS) (aV := aV) (tc := tc) (as := [.int (xs (i + 1))]) R (r_begin (by omega)) rfl rfl rfl rfl
  refine lv_aload_n hx hb dL_law_593 rfl (lv_at hl 1 rfl) ?_
  refine lj_arg (j := 1) hx hb hX hbl hbB hA.2.1 hl hL (by omega) dL_law_594 dL_law_595 dL_law_596 (by decide) dL_law_597 dL_law_598 ?_
  refine lj_call0 (k := 226) (idx := 82) (o := 1) (as := [.int (xs (i + 1))]) (rest := []) F hA hl.1 rfl M1 n1 z1 k1 (by decide) rfl (by decide) hRc hRs (by decide) rfl dL_law_599 (fun H locs hA => ?_)
  refine lv_aload_n hx hb dL_law_602 rfl (lv_at hl 2 rfl) ?_
  refine lj_arg (j := 1) hx hb hX hbl hbB hA.2.1 hl hL (by omega) dL_law_603 dL_law_604 dL_law_605 (by decide) dL_law_606 dL_law_607 ?_
  refine lj_call0 (k := 335) (idx := 85) (o := 630) (as := [.int (xs (i + 1))]) (rest := [.int z]) F hA hl.1 rfl M2 n2 z2 k2 (by decide) rfl (by decide) hRc hRs (by decide) rfl dL_law_608 (fun H locs hA => ?_)
  exact lv_icmp_eq (tgt := 731) hx hb dL_law_611 (by decide) (fun _ => fin _ _ _ R2 hA) (fun c1 => absurd rfl c1)
theorem lj_c16 (F : lj_Fr D B aS aV tc p s m args c) (hX : va_X b L xs s s.heap) (hbl : b < s.heap.size) (hbB : ¬ B < b) (hL : L ≤ 3072) (hi : i + 5 < L) (hu : u + 40 < 2 ^ 20) (R : r_R t_W t_K h u) (hA : q_At D B aS tc s h H locs cells) (hl : lv_has ls 4 [(0, .ref b), (1, .ref (B + 1)), (2, .ref (B + 630)), (3, .int (nI i))]) (hRc : cells ≤ 600000) (hRs : slots ≤ 7302250) (fin : ∀ h2 H2 locs2, r_R t_W t_K h2 (u + 40) → q_At D B aS tc s h2 H2 locs2 cells → W p l e room_1 s m args below meth c H2 locs2 cells slots Q (F0 m 731 ls [])) : W p l e room_1 s m args below meth c H locs cells slots Q (F0 m 616 ls []) := by
  have hx := F.1
  have hb := F.2.1
  obtain ⟨z, h1, h2, M1, M2, R2, k1, k2, n1, z1, n2, z2⟩ := lj_two (l := l) (D := D) (B := B) (aS := aS) (aV := aV) (tc := tc) (as := [.int (xs (i + 1))]) R (r_run (by omega)) rfl rfl rfl rfl
  refine lv_aload_n hx hb dL_law_616 rfl (lv_at hl 1 rfl) ?_
  refine lj_arg (j := 1) hx hb hX hbl hbB hA.2.1 hl hL (by omega) dL_law_617 dL_law_618 dL_law_619 (by decide) dL_law_620 dL_law_621 ?_
  refine lj_call0 (k := 227) (idx := 86) (o := 1) (as := [.int (xs (i + 1))]) (rest := []) F hA hl.1 rfl M1 n1 z1 k1 (by decide) rfl (by decide) hRc hRs (by decide) rfl dL_law_622 (fun H locs hA => ?_)
  refine lv_aload_n hx hb dL_law_625 rfl (lv_at hl 2 rfl) ?_
  refine lj_arg (j := 1) hx hb hX hbl hbB hA.2.1 hl hL (by omega) dL_law_626 dL_law_627 dL_law_628 (by decide) dL_law_629 dL_law_630 ?_
  refine lj_call0 (k := 339) (idx := 89) (o := 630) (as := [.int (xs (i + 1))]) (rest := [.int z]) F hA hl.1 rfl M2 n2 z2 k2 (by decide) rfl (by decide) hRc hRs (by decide) rfl dL_law_631 (fun H locs hA => ?_)
  exact lv_icmp_eq (tgt := 731) hx hb dL_law_634 (by decide) (fun _ => fin _ _ _ R2 hA) (fun c1 => absurd rfl c1)
theorem lj_c17 (F : lj_Fr D B aS aV tc p s m args c) (hX : va_X b L xs s s.heap) (hbl : b < s.heap.size) (hbB : ¬ B < b) (hL : L ≤ 3072) (hi : i + 5 < L) (hu : u + 40 < 2 ^ 20) (R : r_R t_W t_K h u) (hA : q_At D B aS tc s h H locs cells) (hl : lv_has ls 4 [(0, .ref b), (1, .ref (B + 1)), (2, .ref (B + 630)), (3, .int (nI i))]) (hRc : cells ≤ 600000) (hRs : slots ≤ 7302250) (fin : ∀ h2 H2 locs2, r_R t_W t_K h2 u → q_At D B aS tc s h2 H2 locs2 cells → W p l e room_1 s m args below meth c H2 locs2 cells slots Q (F0 m 731 ls [])) : W p l e room_1 s m args below meth c H locs cells slots Q (F0 m 639 ls []) := by
  have hx := F.1
  have hb := F.2.1
  obtain ⟨z, h1, h2, M1, M2, R2, k1, k2, n1, z1, n2, z2⟩ := lj_two (l := l) (D := D) (B := B) (aS := aS) (aV := aV) (tc := tc) (as := [.int (xs (i + 1))]) R (r_undo (by omega)) rfl rfl rfl rfl
  refine lv_aload_n hx hb dL_law_639 rfl (lv_at hl 1 rfl) ?_
  refine lj_arg (j := 1) hx hb hX hbl hbB hA.2.1 hl hL (by omega) dL_law_640 dL_law_641 dL_law_642 (by decide) dL_law_643 dL_law_644 ?_
  refine lj_call0 (k := 228) (idx := 90) (o := 1) (as := [.int (xs (i + 1))]) (rest := []) F hA hl.1 rfl M1 n1 z1 k1 (by decide) rfl (by decide) hRc hRs (by decide) rfl dL_law_645 (fun H locs hA => ?_)
  refine lv_aload_n hx hb dL_law_648 rfl (lv_at hl 2 rfl) ?_
  refine lj_arg (j := 1) hx hb hX hbl hbB hA.2.1 hl hL (by omega) dL_law_649 dL_law_650 dL_law_651 (by decide) dL_law_652 dL_law_653 ?_
  refine lj_call0 (k := 331) (idx := 93) (o := 630) (as := [.int (xs (i + 1))]) (rest := [.int z]) F hA hl.1 rfl M2 n2 z2 k2 (by decide) rfl (by decide) hRc hRs (by decide) rfl dL_law_654 (fun H locs hA => ?_)
  exact lv_icmp_eq (tgt := 731) hx hb dL_law_657 (by decide) (fun _ => fin _ _ _ R2 hA) (fun c1 => absurd rfl c1)
theorem lj_c18 (F : lj_Fr D B aS aV tc p s m args c) (hX : va_X b L xs s s.heap) (hbl : b < s.heap.size) (hbB : ¬ B < b) (hL : L ≤ 3072) (hi : i + 5 < L) (hu : u + 40 < 2 ^ 20) (R : r_R t_W t_K h u) (hA : q_At D B aS tc s h H locs cells) (hl : lv_has ls 4 [(0, .ref b), (1, .ref (B + 1)), (2, .ref (B + 630)), (3, .int (nI i))]) (hRc : cells ≤ 600000) (hRs : slots ≤ 7302250) (fin : ∀ h2 H2 locs2, r_R t_W t_K h2 u → q_At D B aS tc s h2 H2 locs2 cells → W p l e room_1 s m args below meth c H2 locs2 cells slots Q (F0 m 731 ls [])) : W p l e room_1 s m args below meth c H locs cells slots Q (F0 m 662 ls []) := by
  have hx := F.1
  have hb := F.2.1
  obtain ⟨z, h1, h2, M1, M2, R2, k1, k2, n1, z1, n2, z2⟩ := lj_two (l := l) (D := D) (B := B) (aS := aS) (aV := aV) (tc := tc) (as := [.int (xs (i + 1))]) R (r_keep) rfl rfl rfl rfl
  refine lv_aload_n hx hb dL_law_662 rfl (lv_at hl 1 rfl) ?_
  refine lj_arg (j := 1) hx hb hX hbl hbB hA.2.1 hl hL (by omega) dL_law_663 dL_law_664 dL_law_665 (by decide) dL_law_666 dL_law_667 ?_
  refine lj_call0 (k := 229) (idx := 94) (o := 1) (as := [.int (xs (i + 1))]) (rest := []) F hA hl.1 rfl M1 n1 z1 k1 (by decide) rfl (by decide) hRc hRs (by decide) rfl dL_law_668 (fun H locs hA => ?_)
  refine lv_aload_n hx hb dL_law_671 rfl (lv_at hl 2 rfl) ?_
  refine lj_arg (j := 1) hx hb hX hbl hbB hA.2.1 hl hL (by omega) dL_law_672 dL_law_673 dL_law_674 (by decide) dL_law_675 dL_law_676 ?_
  refine lj_call0 (k := 343) (idx := 97) (o := 630) (as := [.int (xs (i + 1))]) (rest := [.int z]) F hA hl.1 rfl M2 n2 z2 k2 (by decide) rfl (by decide) hRc hRs (by decide) rfl dL_law_677 (fun H locs hA => ?_)
  exact lv_icmp_eq (tgt := 731) hx hb dL_law_680 (by decide) (fun _ => fin _ _ _ R2 hA) (fun c1 => absurd rfl c1)
theorem lj_c19 (F : lj_Fr D B aS aV tc p s m args c) (hX : va_X b L xs s s.heap) (hbl : b < s.heap.size) (hbB : ¬ B < b) (hL : L ≤ 3072) (hi : i + 5 < L) (hu : u + 40 < 2 ^ 20) (R : r_R t_W t_K h u) (hA : q_At D B aS tc s h H locs cells) (hl : lv_has ls 4 [(0, .ref b), (1, .ref (B + 1)), (2, .ref (B + 630)), (3, .int (nI i))]) (hRc : cells ≤ 600000) (hRs : slots ≤ 7302250) (fin : ∀ h2 H2 locs2, r_R t_W t_K h2 u → q_At D B aS tc s h2 H2 locs2 cells → W p l e room_1 s m args below meth c H2 locs2 cells slots Q (F0 m 731 ls [])) : W p l e room_1 s m args below meth c H locs cells slots Q (F0 m 685 ls []) := by
  have hx := F.1
  have hb := F.2.1
  obtain ⟨z, h1, h2, M1, M2, R2, k1, k2, n1, z1, n2, z2⟩ := lj_two (l := l) (D := D) (B := B) (aS := aS) (aV := aV) (tc := tc) (as := [.int (xs (i + 1))]) R (r_same) rfl rfl rfl rfl
  refine lv_aload_n hx hb dL_law_685 rfl (lv_at hl 1 rfl) ?_
  refine lj_arg (j := 1) hx hb hX hbl hbB hA.2.1 hl hL (by omega) dL_law_686 dL_law_687 dL_law_688 (by decide) dL_law_689 dL_law_690 ?_
  refine lj_call0 (k := 230) (idx := 98) (o := 1) (as := [.int (xs (i + 1))]) (rest := []) F hA hl.1 rfl M1 n1 z1 k1 (by decide) rfl (by decide) hRc hRs (by decide) rfl dL_law_691 (fun H locs hA => ?_)
  refine lv_aload_n hx hb dL_law_694 rfl (lv_at hl 2 rfl) ?_
  refine lj_arg (j := 1) hx hb hX hbl hbB hA.2.1 hl hL (by omega) dL_law_695 dL_law_696 dL_law_697 (by decide) dL_law_698 dL_law_699 ?_
  refine lj_call0 (k := 346) (idx := 101) (o := 630) (as := [.int (xs (i + 1))]) (rest := [.int z]) F hA hl.1 rfl M2 n2 z2 k2 (by decide) rfl (by decide) hRc hRs (by decide) rfl dL_law_700 (fun H locs hA => ?_)
  exact lv_icmp_eq (tgt := 731) hx hb dL_law_703 (by decide) (fun _ => fin _ _ _ R2 hA) (fun c1 => absurd rfl c1)
theorem lj_c20 (F : lj_Fr D B aS aV tc p s m args c) (hX : va_X b L xs s s.heap) (hbl : b < s.heap.size) (hbB : ¬ B < b) (hL : L ≤ 3072) (hi : i + 5 < L) (hu : u + 40 < 2 ^ 20) (R : r_R t_W t_K h u) (hA : q_At D B aS tc s h H locs cells) (hl : lv_has ls 4 [(0, .ref b), (1, .ref (B + 1)), (2, .ref (B + 630)), (3, .int (nI i))]) (hRc : cells ≤ 600000) (hRs : slots ≤ 7302250) (fin : ∀ h2 H2 locs2, r_R t_W t_K h2 u → q_At D B aS tc s h2 H2 locs2 cells → W p l e room_1 s m args below meth c H2 locs2 cells slots Q (F0 m 731 ls [])) : W p l e room_1 s m args below meth c H locs cells slots Q (F0 m 708 ls []) := by
  have hx := F.1
  have hb := F.2.1
  obtain ⟨z, h1, h2, M1, M2, R2, k1, k2, n1, z1, n2, z2⟩ := lj_two (l := l) (D := D) (B := B) (aS := aS) (aV := aV) (tc := tc) (as := [.int (xs (i + 1))]) R (r_count) rfl rfl rfl rfl
  refine lv_aload_n hx hb dL_law_708 rfl (lv_at hl 1 rfl) ?_
  refine lj_arg (j := 1) hx hb hX hbl hbB hA.2.1 hl hL (by omega) dL_law_709 dL_law_710 dL_law_711 (by decide) dL_law_712 dL_law_713 ?_
  refine lj_call0 (k := 231) (idx := 102) (o := 1) (as := [.int (xs (i + 1))]) (rest := []) F hA hl.1 rfl M1 n1 z1 k1 (by decide) rfl (by decide) hRc hRs (by decide) rfl dL_law_714 (fun H locs hA => ?_)
  refine lv_aload_n hx hb dL_law_717 rfl (lv_at hl 2 rfl) ?_
  refine lj_arg (j := 1) hx hb hX hbl hbB hA.2.1 hl hL (by omega) dL_law_718 dL_law_719 dL_law_720 (by decide) dL_law_721 dL_law_722 ?_
  refine lj_call0 (k := 347) (idx := 105) (o := 630) (as := [.int (xs (i + 1))]) (rest := [.int z]) F hA hl.1 rfl M2 n2 z2 k2 (by decide) rfl (by decide) hRc hRs (by decide) rfl dL_law_723 (fun H locs hA => ?_)
  exact lv_icmp_eq (tgt := 731) hx hb dL_law_726 (by decide) (fun _ => fin _ _ _ R2 hA) (fun c1 => absurd rfl c1)
end LS
