set_option maxRecDepth 20000 in
theorem b236_722 {n : Nat} {h : q_Hp} {Q : Option Value → q_Hp → Prop} {x0 : Nat} {s0 : Int64} {s1 : Int32} {s2 : Nat} {v0 : Nat} (k0 : q_ok h s2 21) (i0 : q_in s1 (qK h s2).2) (k1 : q_ok h x0 12) (e0 : qR h x0 9 = v0) {m : Nat} {P : Int64 → q_Hp → Prop} (hc : q_mJ m 244 [.int 111, .int 102, .int 0, .int 0, .int 0] (q_sL h s2 s1.toNatClampNeg s0) P) (hm : m ≤ n) (w : ∀ (z : Int64) (h1 : q_Hp), P z h1 → q_wp (n + 1) 236 738 [some (.ref x0)] [.long z, .int 1, .ref v0] h1 Q) : q_wp (n + 1) 236 722 [some (.ref x0)] [.long s0, .int s1, .ref s2] h Q := by
  refine wp_last rfl k0 i0 ?_
  refine wp_loc rfl rfl ?_
  refine wp_getR rfl rfl rfl rfl k1 e0 ?_
  refine wp_iconst (v := 1) rfl (by decide) ?_
  refine wp_bipush (v := 111) rfl (by decide) ?_
  refine wp_bipush (v := 102) rfl (by decide) ?_
  refine wp_iconst (v := 0) rfl (by decide) ?_
  refine wp_iconst (v := 0) rfl (by decide) ?_
  refine wp_iconst (v := 0) rfl (by decide) ?_
  exact wp_callJ (av := [.int 111, .int 102, .int 0, .int 0, .int 0]) rfl rfl rfl (by decide) rfl rfl rfl hm hc w
set_option maxRecDepth 20000 in
theorem b236_738 {n : Nat} {h : q_Hp} {Q : Option Value → q_Hp → Prop} {x0 : Nat} {s0 : Int64} {s1 : Int32} {s2 : Nat} {v0 : Nat} (k0 : q_ok h s2 21) (i0 : q_in s1 (qK h s2).2) (k1 : q_ok h x0 12) (e0 : qR h x0 9 = v0) {m : Nat} {P : Int64 → q_Hp → Prop} (hc : q_mJ m 244 [.int 115, .int 111, .int 114, .int 116, .int 0] (q_sL h s2 s1.toNatClampNeg s0) P) (hm : m ≤ n) (w : ∀ (z : Int64) (h1 : q_Hp), P z h1 → q_wp (n + 1) 236 756 [some (.ref x0)] [.long z, .int 2, .ref v0] h1 Q) : q_wp (n + 1) 236 738 [some (.ref x0)] [.long s0, .int s1, .ref s2] h Q := by
  refine wp_last rfl k0 i0 ?_
  refine wp_loc rfl rfl ?_
  refine wp_getR rfl rfl rfl rfl k1 e0 ?_
  refine wp_iconst (v := 2) rfl (by decide) ?_
  refine wp_bipush (v := 115) rfl (by decide) ?_
  refine wp_bipush (v := 111) rfl (by decide) ?_
  refine wp_bipush (v := 114) rfl (by decide) ?_
  refine wp_bipush (v := 116) rfl (by decide) ?_
  refine wp_iconst (v := 0) rfl (by decide) ?_
  exact wp_callJ (av := [.int 115, .int 111, .int 114, .int 116, .int 0]) rfl rfl rfl (by decide) rfl rfl rfl hm hc w
set_option maxRecDepth 20000 in
theorem b236_756 {n : Nat} {h : q_Hp} {Q : Option Value → q_Hp → Prop} {x0 : Nat} {s0 : Int64} {s1 : Int32} {s2 : Nat} {v0 : Nat} (k0 : q_ok h s2 21) (i0 : q_in s1 (qK h s2).2) (k1 : q_ok h x0 12) (e0 : qR h x0 9 = v0) {m : Nat} {P : Int64 → q_Hp → Prop} (hc : q_mJ m 244 [.int 114, .int 117, .int 108, .int 101, .int 0] (q_sL h s2 s1.toNatClampNeg s0) P) (hm : m ≤ n) (w : ∀ (z : Int64) (h1 : q_Hp), P z h1 → q_wp (n + 1) 236 774 [some (.ref x0)] [.long z, .int 3, .ref v0] h1 Q) : q_wp (n + 1) 236 756 [some (.ref x0)] [.long s0, .int s1, .ref s2] h Q := by
  refine wp_last rfl k0 i0 ?_
  refine wp_loc rfl rfl ?_
  refine wp_getR rfl rfl rfl rfl k1 e0 ?_
  refine wp_iconst (v := 3) rfl (by decide) ?_
  refine wp_bipush (v := 114) rfl (by decide) ?_
  refine wp_bipush (v := 117) rfl (by decide) ?_
  refine wp_bipush (v := 108) rfl (by decide) ?_
  refine wp_bipush (v := 101) rfl (by decide) ?_
  refine wp_iconst (v := 0) rfl (by decide) ?_
  exact wp_callJ (av := [.int 114, .int 117, .int 108, .int 101, .int 0]) rfl rfl rfl (by decide) rfl rfl rfl hm hc w
set_option maxRecDepth 20000 in
theorem b236_774 {n : Nat} {h : q_Hp} {Q : Option Value → q_Hp → Prop} {x0 : Nat} {s0 : Int64} {s1 : Int32} {s2 : Nat} {v0 : Nat} (k0 : q_ok h s2 21) (i0 : q_in s1 (qK h s2).2) (k1 : q_ok h x0 12) (e0 : qR h x0 9 = v0) {m : Nat} {P : Int64 → q_Hp → Prop} (hc : q_mJ m 244 [.int 112, .int 114, .int 111, .int 99, .int 0] (q_sL h s2 s1.toNatClampNeg s0) P) (hm : m ≤ n) (w : ∀ (z : Int64) (h1 : q_Hp), P z h1 → q_wp (n + 1) 236 792 [some (.ref x0)] [.long z, .int 4, .ref v0] h1 Q) : q_wp (n + 1) 236 774 [some (.ref x0)] [.long s0, .int s1, .ref s2] h Q := by
  refine wp_last rfl k0 i0 ?_
  refine wp_loc rfl rfl ?_
  refine wp_getR rfl rfl rfl rfl k1 e0 ?_
  refine wp_iconst (v := 4) rfl (by decide) ?_
  refine wp_bipush (v := 112) rfl (by decide) ?_
  refine wp_bipush (v := 114) rfl (by decide) ?_
  refine wp_bipush (v := 111) rfl (by decide) ?_
  refine wp_bipush (v := 99) rfl (by decide) ?_
  refine wp_iconst (v := 0) rfl (by decide) ?_
  exact wp_callJ (av := [.int 112, .int 114, .int 111, .int 99, .int 0]) rfl rfl rfl (by decide) rfl rfl rfl hm hc w
set_option maxRecDepth 20000 in
theorem b236_792 {n : Nat} {h : q_Hp} {Q : Option Value → q_Hp → Prop} {x0 : Nat} {s0 : Int64} {s1 : Int32} {s2 : Nat} {v0 : Nat} (k0 : q_ok h s2 21) (i0 : q_in s1 (qK h s2).2) (k1 : q_ok h x0 12) (e0 : qR h x0 9 = v0) {m : Nat} {P : Int64 → q_Hp → Prop} (hc : q_mJ m 244 [.int 110, .int 111, .int 100, .int 101, .int 0] (q_sL h s2 s1.toNatClampNeg s0) P) (hm : m ≤ n) (w : ∀ (z : Int64) (h1 : q_Hp), P z h1 → q_wp (n + 1) 236 810 [some (.ref x0)] [.long z, .int 5, .ref v0] h1 Q) : q_wp (n + 1) 236 792 [some (.ref x0)] [.long s0, .int s1, .ref s2] h Q := by
  refine wp_last rfl k0 i0 ?_
  refine wp_loc rfl rfl ?_
  refine wp_getR rfl rfl rfl rfl k1 e0 ?_
  refine wp_iconst (v := 5) rfl (by decide) ?_
  refine wp_bipush (v := 110) rfl (by decide) ?_
  refine wp_bipush (v := 111) rfl (by decide) ?_
  refine wp_bipush (v := 100) rfl (by decide) ?_
  refine wp_bipush (v := 101) rfl (by decide) ?_
  refine wp_iconst (v := 0) rfl (by decide) ?_
  exact wp_callJ (av := [.int 110, .int 111, .int 100, .int 101, .int 0]) rfl rfl rfl (by decide) rfl rfl rfl hm hc w
set_option maxRecDepth 20000 in
theorem b236_810 {n : Nat} {h : q_Hp} {Q : Option Value → q_Hp → Prop} {x0 : Nat} {s0 : Int64} {s1 : Int32} {s2 : Nat} {v0 : Nat} (k0 : q_ok h s2 21) (i0 : q_in s1 (qK h s2).2) (k1 : q_ok h x0 12) (e0 : qR h x0 9 = v0) {m : Nat} {P : Int64 → q_Hp → Prop} (hc : q_mJ m 244 [.int 108, .int 105, .int 110, .int 107, .int 0] (q_sL h s2 s1.toNatClampNeg s0) P) (hm : m ≤ n) (w : ∀ (z : Int64) (h1 : q_Hp), P z h1 → q_wp (n + 1) 236 829 [some (.ref x0)] [.long z, .int 6, .ref v0] h1 Q) : q_wp (n + 1) 236 810 [some (.ref x0)] [.long s0, .int s1, .ref s2] h Q := by
  refine wp_last rfl k0 i0 ?_
  refine wp_loc rfl rfl ?_
  refine wp_getR rfl rfl rfl rfl k1 e0 ?_
  refine wp_bipush (v := 6) rfl (by decide) ?_
  refine wp_bipush (v := 108) rfl (by decide) ?_
  refine wp_bipush (v := 105) rfl (by decide) ?_
  refine wp_bipush (v := 110) rfl (by decide) ?_
  refine wp_bipush (v := 107) rfl (by decide) ?_
  refine wp_iconst (v := 0) rfl (by decide) ?_
  exact wp_callJ (av := [.int 108, .int 105, .int 110, .int 107, .int 0]) rfl rfl rfl (by decide) rfl rfl rfl hm hc w
set_option maxRecDepth 20000 in
theorem b236_829 {n : Nat} {h : q_Hp} {Q : Option Value → q_Hp → Prop} {x0 : Nat} {s0 : Int64} {s1 : Int32} {s2 : Nat} {v0 : Nat} (k0 : q_ok h s2 21) (i0 : q_in s1 (qK h s2).2) (k1 : q_ok h x0 12) (e0 : qR h x0 9 = v0) {m : Nat} {P : Int64 → q_Hp → Prop} (hc : q_mJ m 244 [.int 109, .int 101, .int 114, .int 103, .int 101] (q_sL h s2 s1.toNatClampNeg s0) P) (hm : m ≤ n) (w : ∀ (z : Int64) (h1 : q_Hp), P z h1 → q_wp (n + 1) 236 849 [some (.ref x0)] [.long z, .int 7, .ref v0] h1 Q) : q_wp (n + 1) 236 829 [some (.ref x0)] [.long s0, .int s1, .ref s2] h Q := by
  refine wp_last rfl k0 i0 ?_
  refine wp_loc rfl rfl ?_
  refine wp_getR rfl rfl rfl rfl k1 e0 ?_
  refine wp_bipush (v := 7) rfl (by decide) ?_
  refine wp_bipush (v := 109) rfl (by decide) ?_
  refine wp_bipush (v := 101) rfl (by decide) ?_
  refine wp_bipush (v := 114) rfl (by decide) ?_
  refine wp_bipush (v := 103) rfl (by decide) ?_
  refine wp_bipush (v := 101) rfl (by decide) ?_
  exact wp_callJ (av := [.int 109, .int 101, .int 114, .int 103, .int 101]) rfl rfl rfl (by decide) rfl rfl rfl hm hc w
set_option maxRecDepth 20000 in
theorem b236_849 {n : Nat} {h : q_Hp} {Q : Option Value → q_Hp → Prop} {x0 : Nat} {s0 : Int64} {s1 : Int32} {s2 : Nat} {v0 : Nat} (k0 : q_ok h s2 21) (i0 : q_in s1 (qK h s2).2) (k1 : q_ok h x0 12) (e0 : qR h x0 9 = v0) {m : Nat} {P : Int64 → q_Hp → Prop} (hc : q_mJ m 244 [.int 110, .int 111, .int 116, .int 0, .int 0] (q_sL h s2 s1.toNatClampNeg s0) P) (hm : m ≤ n) (w : ∀ (z : Int64) (h1 : q_Hp), P z h1 → q_wp (n + 1) 236 867 [some (.ref x0)] [.long z, .int 8, .ref v0] h1 Q) : q_wp (n + 1) 236 849 [some (.ref x0)] [.long s0, .int s1, .ref s2] h Q := by
  refine wp_last rfl k0 i0 ?_
  refine wp_loc rfl rfl ?_
  refine wp_getR rfl rfl rfl rfl k1 e0 ?_
  refine wp_bipush (v := 8) rfl (by decide) ?_
  refine wp_bipush (v := 110) rfl (by decide) ?_
  refine wp_bipush (v := 111) rfl (by decide) ?_
  refine wp_bipush (v := 116) rfl (by decide) ?_
  refine wp_iconst (v := 0) rfl (by decide) ?_
  refine wp_iconst (v := 0) rfl (by decide) ?_
  exact wp_callJ (av := [.int 110, .int 111, .int 116, .int 0, .int 0]) rfl rfl rfl (by decide) rfl rfl rfl hm hc w
set_option maxRecDepth 20000 in
theorem b236_867 {n : Nat} {h : q_Hp} {Q : Option Value → q_Hp → Prop} {x0 : Nat} {s0 : Int64} {s1 : Int32} {s2 : Nat} {v0 : Nat} (k0 : q_ok h s2 21) (i0 : q_in s1 (qK h s2).2) (k1 : q_ok h x0 12) (e0 : qR h x0 9 = v0) {m : Nat} {P : Int64 → q_Hp → Prop} (hc : q_mJ m 244 [.int 101, .int 110, .int 100, .int 0, .int 0] (q_sL h s2 s1.toNatClampNeg s0) P) (hm : m ≤ n) (w : ∀ (z : Int64) (h1 : q_Hp), P z h1 → q_wp (n + 1) 236 885 [some (.ref x0)] [.long z, .int 9, .ref v0] h1 Q) : q_wp (n + 1) 236 867 [some (.ref x0)] [.long s0, .int s1, .ref s2] h Q := by
  refine wp_last rfl k0 i0 ?_
  refine wp_loc rfl rfl ?_
  refine wp_getR rfl rfl rfl rfl k1 e0 ?_
  refine wp_bipush (v := 9) rfl (by decide) ?_
  refine wp_bipush (v := 101) rfl (by decide) ?_
  refine wp_bipush (v := 110) rfl (by decide) ?_
  refine wp_bipush (v := 100) rfl (by decide) ?_
  refine wp_iconst (v := 0) rfl (by decide) ?_
  refine wp_iconst (v := 0) rfl (by decide) ?_
  exact wp_callJ (av := [.int 101, .int 110, .int 100, .int 0, .int 0]) rfl rfl rfl (by decide) rfl rfl rfl hm hc w
set_option maxRecDepth 20000 in
theorem b236_885 {n : Nat} {h : q_Hp} {Q : Option Value → q_Hp → Prop} {x0 : Nat} {s0 : Int64} {s1 : Int32} {s2 : Nat} {v0 : Nat} (k0 : q_ok h s2 21) (i0 : q_in s1 (qK h s2).2) (k1 : q_ok h x0 12) (e0 : qR h x0 9 = v0) {m : Nat} {P : Int64 → q_Hp → Prop} (hc : q_mJ m 244 [.int 105, .int 102, .int 0, .int 0, .int 0] (q_sL h s2 s1.toNatClampNeg s0) P) (hm : m ≤ n) (w : ∀ (z : Int64) (h1 : q_Hp), P z h1 → q_wp (n + 1) 236 902 [some (.ref x0)] [.long z, .int 10, .ref v0] h1 Q) : q_wp (n + 1) 236 885 [some (.ref x0)] [.long s0, .int s1, .ref s2] h Q := by
  refine wp_last rfl k0 i0 ?_
  refine wp_loc rfl rfl ?_
  refine wp_getR rfl rfl rfl rfl k1 e0 ?_
  refine wp_bipush (v := 10) rfl (by decide) ?_
  refine wp_bipush (v := 105) rfl (by decide) ?_
  refine wp_bipush (v := 102) rfl (by decide) ?_
  refine wp_iconst (v := 0) rfl (by decide) ?_
  refine wp_iconst (v := 0) rfl (by decide) ?_
  refine wp_iconst (v := 0) rfl (by decide) ?_
  exact wp_callJ (av := [.int 105, .int 102, .int 0, .int 0, .int 0]) rfl rfl rfl (by decide) rfl rfl rfl hm hc w
set_option maxRecDepth 20000 in
theorem b236_902 {n : Nat} {h : q_Hp} {Q : Option Value → q_Hp → Prop} {x0 : Nat} {s0 : Int64} {s1 : Int32} {s2 : Nat} {v0 : Nat} (k0 : q_ok h s2 21) (i0 : q_in s1 (qK h s2).2) (k1 : q_ok h x0 12) (e0 : qR h x0 9 = v0) {m : Nat} {P : Int64 → q_Hp → Prop} (hc : q_mJ m 244 [.int 100, .int 101, .int 108, .int 0, .int 0] (q_sL h s2 s1.toNatClampNeg s0) P) (hm : m ≤ n) (w : ∀ (z : Int64) (h1 : q_Hp), P z h1 → q_wp (n + 1) 236 920 [some (.ref x0)] [.long z, .int 11, .ref v0] h1 Q) : q_wp (n + 1) 236 902 [some (.ref x0)] [.long s0, .int s1, .ref s2] h Q := by
  refine wp_last rfl k0 i0 ?_
  refine wp_loc rfl rfl ?_
  refine wp_getR rfl rfl rfl rfl k1 e0 ?_
  refine wp_bipush (v := 11) rfl (by decide) ?_
  refine wp_bipush (v := 100) rfl (by decide) ?_
  refine wp_bipush (v := 101) rfl (by decide) ?_
  refine wp_bipush (v := 108) rfl (by decide) ?_
  refine wp_iconst (v := 0) rfl (by decide) ?_
  refine wp_iconst (v := 0) rfl (by decide) ?_
  exact wp_callJ (av := [.int 100, .int 101, .int 108, .int 0, .int 0]) rfl rfl rfl (by decide) rfl rfl rfl hm hc w
set_option maxRecDepth 20000 in
theorem b236_920 {n : Nat} {h : q_Hp} {Q : Option Value → q_Hp → Prop} {x0 : Nat} {s0 : Int64} {s1 : Int32} {s2 : Nat} {v0 : Nat} (k0 : q_ok h s2 21) (i0 : q_in s1 (qK h s2).2) (k1 : q_ok h x0 12) (e0 : qR h x0 9 = v0) {m : Nat} {P : Int64 → q_Hp → Prop} (hc : q_mJ m 244 [.int 110, .int 101, .int 119, .int 0, .int 0] (q_sL h s2 s1.toNatClampNeg s0) P) (hm : m ≤ n) (w : ∀ (z : Int64) (h1 : q_Hp), P z h1 → q_wp (n + 1) 236 938 [some (.ref x0)] [.long z, .int 12, .ref v0] h1 Q) : q_wp (n + 1) 236 920 [some (.ref x0)] [.long s0, .int s1, .ref s2] h Q := by
  refine wp_last rfl k0 i0 ?_
  refine wp_loc rfl rfl ?_
  refine wp_getR rfl rfl rfl rfl k1 e0 ?_
  refine wp_bipush (v := 12) rfl (by decide) ?_
  refine wp_bipush (v := 110) rfl (by decide) ?_
  refine wp_bipush (v := 101) rfl (by decide) ?_
  refine wp_bipush (v := 119) rfl (by decide) ?_
  refine wp_iconst (v := 0) rfl (by decide) ?_
  refine wp_iconst (v := 0) rfl (by decide) ?_
  exact wp_callJ (av := [.int 110, .int 101, .int 119, .int 0, .int 0]) rfl rfl rfl (by decide) rfl rfl rfl hm hc w
set_option maxRecDepth 20000 in
theorem b236_938 {n : Nat} {h : q_Hp} {Q : Option Value → q_Hp → Prop} {x0 : Nat} {s0 : Int64} {s1 : Int32} {s2 : Nat} {v0 : Nat} (k0 : q_ok h s2 21) (i0 : q_in s1 (qK h s2).2) (k1 : q_ok h x0 12) (e0 : qR h x0 9 = v0) {m : Nat} {P : Int64 → q_Hp → Prop} (hc : q_mJ m 244 [.int 106, .int 111, .int 105, .int 110, .int 0] (q_sL h s2 s1.toNatClampNeg s0) P) (hm : m ≤ n) (w : ∀ (z : Int64) (h1 : q_Hp), P z h1 → q_wp (n + 1) 236 957 [some (.ref x0)] [.long z, .int 13, .ref v0] h1 Q) : q_wp (n + 1) 236 938 [some (.ref x0)] [.long s0, .int s1, .ref s2] h Q := by
  refine wp_last rfl k0 i0 ?_
  refine wp_loc rfl rfl ?_
  refine wp_getR rfl rfl rfl rfl k1 e0 ?_
  refine wp_bipush (v := 13) rfl (by decide) ?_
  refine wp_bipush (v := 106) rfl (by decide) ?_
  refine wp_bipush (v := 111) rfl (by decide) ?_
  refine wp_bipush (v := 105) rfl (by decide) ?_
  refine wp_bipush (v := 110) rfl (by decide) ?_
  refine wp_iconst (v := 0) rfl (by decide) ?_
  exact wp_callJ (av := [.int 106, .int 111, .int 105, .int 110, .int 0]) rfl rfl rfl (by decide) rfl rfl rfl hm hc w
set_option maxRecDepth 20000 in
theorem b236_957 {n : Nat} {h : q_Hp} {Q : Option Value → q_Hp → Prop} {x0 : Nat} {s0 : Int64} {s1 : Int32} {s2 : Nat} {v0 : Nat} (k0 : q_ok h s2 21) (i0 : q_in s1 (qK h s2).2) (k1 : q_ok h x0 12) (e0 : qR h x0 9 = v0) {m : Nat} {P : Int64 → q_Hp → Prop} (hc : q_mJ m 244 [.int 115, .int 101, .int 116, .int 0, .int 0] (q_sL h s2 s1.toNatClampNeg s0) P) (hm : m ≤ n) (w : ∀ (z : Int64) (h1 : q_Hp), P z h1 → q_wp (n + 1) 236 975 [some (.ref x0)] [.long z, .int 14, .ref v0] h1 Q) : q_wp (n + 1) 236 957 [some (.ref x0)] [.long s0, .int s1, .ref s2] h Q := by
  refine wp_last rfl k0 i0 ?_
  refine wp_loc rfl rfl ?_
  refine wp_getR rfl rfl rfl rfl k1 e0 ?_
  refine wp_bipush (v := 14) rfl (by decide) ?_
  refine wp_bipush (v := 115) rfl (by decide) ?_
  refine wp_bipush (v := 101) rfl (by decide) ?_
  refine wp_bipush (v := 116) rfl (by decide) ?_
  refine wp_iconst (v := 0) rfl (by decide) ?_
  refine wp_iconst (v := 0) rfl (by decide) ?_
  exact wp_callJ (av := [.int 115, .int 101, .int 116, .int 0, .int 0]) rfl rfl rfl (by decide) rfl rfl rfl hm hc w
set_option maxRecDepth 20000 in
theorem b236_975 {n : Nat} {h : q_Hp} {Q : Option Value → q_Hp → Prop} {x0 : Nat} {s0 : Int64} {s1 : Int32} {s2 : Nat} {v0 : Nat} (k0 : q_ok h s2 21) (i0 : q_in s1 (qK h s2).2) (k1 : q_ok h x0 12) (e0 : qR h x0 9 = v0) {m : Nat} {P : Int64 → q_Hp → Prop} (hc : q_mJ m 244 [.int 100, .int 111, .int 0, .int 0, .int 0] (q_sL h s2 s1.toNatClampNeg s0) P) (hm : m ≤ n) (w : ∀ (z : Int64) (h1 : q_Hp), P z h1 → q_wp (n + 1) 236 992 [some (.ref x0)] [.long z, .int 15, .ref v0] h1 Q) : q_wp (n + 1) 236 975 [some (.ref x0)] [.long s0, .int s1, .ref s2] h Q := by
  refine wp_last rfl k0 i0 ?_
  refine wp_loc rfl rfl ?_
  refine wp_getR rfl rfl rfl rfl k1 e0 ?_
  refine wp_bipush (v := 15) rfl (by decide) ?_
  refine wp_bipush (v := 100) rfl (by decide) ?_
  refine wp_bipush (v := 111) rfl (by decide) ?_
  refine wp_iconst (v := 0) rfl (by decide) ?_
  refine wp_iconst (v := 0) rfl (by decide) ?_
  refine wp_iconst (v := 0) rfl (by decide) ?_
  exact wp_callJ (av := [.int 100, .int 111, .int 0, .int 0, .int 0]) rfl rfl rfl (by decide) rfl rfl rfl hm hc w
set_option maxRecDepth 20000 in
theorem b236_992 {n : Nat} {h : q_Hp} {Q : Option Value → q_Hp → Prop} {x0 : Nat} {s0 : Int64} {s1 : Int32} {s2 : Nat} {v0 : Nat} (k0 : q_ok h s2 21) (i0 : q_in s1 (qK h s2).2) (k1 : q_ok h x0 12) (e0 : qR h x0 9 = v0) {m : Nat} {P : Int64 → q_Hp → Prop} (hc : q_mJ m 244 [.int 97, .int 108, .int 108, .int 0, .int 0] (q_sL h s2 s1.toNatClampNeg s0) P) (hm : m ≤ n) (w : ∀ (z : Int64) (h1 : q_Hp), P z h1 → q_wp (n + 1) 236 1010 [some (.ref x0)] [.long z, .int 16, .ref v0] h1 Q) : q_wp (n + 1) 236 992 [some (.ref x0)] [.long s0, .int s1, .ref s2] h Q := by
  refine wp_last rfl k0 i0 ?_
  refine wp_loc rfl rfl ?_
  refine wp_getR rfl rfl rfl rfl k1 e0 ?_
  refine wp_bipush (v := 16) rfl (by decide) ?_
  refine wp_bipush (v := 97) rfl (by decide) ?_
  refine wp_bipush (v := 108) rfl (by decide) ?_
  refine wp_bipush (v := 108) rfl (by decide) ?_
  refine wp_iconst (v := 0) rfl (by decide) ?_
  refine wp_iconst (v := 0) rfl (by decide) ?_
  exact wp_callJ (av := [.int 97, .int 108, .int 108, .int 0, .int 0]) rfl rfl rfl (by decide) rfl rfl rfl hm hc w
set_option maxRecDepth 20000 in
theorem b236_1010 {n : Nat} {h : q_Hp} {Q : Option Value → q_Hp → Prop} {x0 : Nat} {s0 : Int64} {s1 : Int32} {s2 : Nat} {v0 : Nat} (k0 : q_ok h s2 21) (i0 : q_in s1 (qK h s2).2) (k1 : q_ok h x0 12) (e0 : qR h x0 9 = v0) {m : Nat} {P : Int64 → q_Hp → Prop} (hc : q_mJ m 244 [.int 97, .int 110, .int 121, .int 0, .int 0] (q_sL h s2 s1.toNatClampNeg s0) P) (hm : m ≤ n) (w : ∀ (z : Int64) (h1 : q_Hp), P z h1 → q_wp (n + 1) 236 1028 [some (.ref x0)] [.long z, .int 17, .ref v0] h1 Q) : q_wp (n + 1) 236 1010 [some (.ref x0)] [.long s0, .int s1, .ref s2] h Q := by
  refine wp_last rfl k0 i0 ?_
  refine wp_loc rfl rfl ?_
  refine wp_getR rfl rfl rfl rfl k1 e0 ?_
  refine wp_bipush (v := 17) rfl (by decide) ?_
  refine wp_bipush (v := 97) rfl (by decide) ?_
  refine wp_bipush (v := 110) rfl (by decide) ?_
  refine wp_bipush (v := 121) rfl (by decide) ?_
  refine wp_iconst (v := 0) rfl (by decide) ?_
  refine wp_iconst (v := 0) rfl (by decide) ?_
  exact wp_callJ (av := [.int 97, .int 110, .int 121, .int 0, .int 0]) rfl rfl rfl (by decide) rfl rfl rfl hm hc w
set_option maxRecDepth 20000 in
theorem b236_1028 {n : Nat} {h : q_Hp} {Q : Option Value → q_Hp → Prop} {x0 : Nat} {s0 : Int64} {s1 : Int32} {s2 : Nat} {v0 : Nat} (k0 : q_ok h s2 21) (i0 : q_in s1 (qK h s2).2) (k1 : q_ok h x0 12) (e0 : qR h x0 9 = v0) {m : Nat} {P : Int64 → q_Hp → Prop} (hc : q_mJ m 244 [.int 99, .int 97, .int 108, .int 108, .int 0] (q_sL h s2 s1.toNatClampNeg s0) P) (hm : m ≤ n) (w : ∀ (z : Int64) (h1 : q_Hp), P z h1 → q_wp (n + 1) 236 1047 [some (.ref x0)] [.long z, .int 18, .ref v0] h1 Q) : q_wp (n + 1) 236 1028 [some (.ref x0)] [.long s0, .int s1, .ref s2] h Q := by
  refine wp_last rfl k0 i0 ?_
  refine wp_loc rfl rfl ?_
  refine wp_getR rfl rfl rfl rfl k1 e0 ?_
  refine wp_bipush (v := 18) rfl (by decide) ?_
  refine wp_bipush (v := 99) rfl (by decide) ?_
  refine wp_bipush (v := 97) rfl (by decide) ?_
  refine wp_bipush (v := 108) rfl (by decide) ?_
  refine wp_bipush (v := 108) rfl (by decide) ?_
  refine wp_iconst (v := 0) rfl (by decide) ?_
  exact wp_callJ (av := [.int 99, .int 97, .int 108, .int 108, .int 0]) rfl rfl rfl (by decide) rfl rfl rfl hm hc w
set_option maxRecDepth 20000 in
theorem b236_1047 {n : Nat} {h : q_Hp} {Q : Option Value → q_Hp → Prop} {x0 : Nat} {s0 : Int64} {s1 : Int32} {s2 : Nat} {v0 : Nat} (k0 : q_ok h s2 21) (i0 : q_in s1 (qK h s2).2) (k1 : q_ok h x0 12) (e0 : qR h x0 9 = v0) {m : Nat} {P : Int64 → q_Hp → Prop} (hc : q_mJ m 244 [.int 102, .int 97, .int 105, .int 108, .int 0] (q_sL h s2 s1.toNatClampNeg s0) P) (hm : m ≤ n) (w : ∀ (z : Int64) (h1 : q_Hp), P z h1 → q_wp (n + 1) 236 1066 [some (.ref x0)] [.long z, .int 19, .ref v0] h1 Q) : q_wp (n + 1) 236 1047 [some (.ref x0)] [.long s0, .int s1, .ref s2] h Q := by
  refine wp_last rfl k0 i0 ?_
  refine wp_loc rfl rfl ?_
  refine wp_getR rfl rfl rfl rfl k1 e0 ?_
  refine wp_bipush (v := 19) rfl (by decide) ?_
  refine wp_bipush (v := 102) rfl (by decide) ?_
  refine wp_bipush (v := 97) rfl (by decide) ?_
  refine wp_bipush (v := 105) rfl (by decide) ?_
  refine wp_bipush (v := 108) rfl (by decide) ?_
  refine wp_iconst (v := 0) rfl (by decide) ?_
  exact wp_callJ (av := [.int 102, .int 97, .int 105, .int 108, .int 0]) rfl rfl rfl (by decide) rfl rfl rfl hm hc w
set_option maxRecDepth 20000 in
theorem b236_1066 {n : Nat} {h : q_Hp} {Q : Option Value → q_Hp → Prop} {x0 : Nat} {s0 : Int64} {s1 : Int32} {s2 : Nat} {v0 : Nat} (k0 : q_ok h s2 21) (i0 : q_in s1 (qK h s2).2) (k1 : q_ok h x0 12) (e0 : qR h x0 9 = v0) {m : Nat} {P : Int64 → q_Hp → Prop} (hc : q_mJ m 244 [.int 119, .int 104, .int 105, .int 108, .int 101] (q_sL h s2 s1.toNatClampNeg s0) P) (hm : m ≤ n) (w : ∀ (z : Int64) (h1 : q_Hp), P z h1 → q_wp (n + 1) 236 1086 [some (.ref x0)] [.long z, .int 20, .ref v0] h1 Q) : q_wp (n + 1) 236 1066 [some (.ref x0)] [.long s0, .int s1, .ref s2] h Q := by
  refine wp_last rfl k0 i0 ?_
  refine wp_loc rfl rfl ?_
  refine wp_getR rfl rfl rfl rfl k1 e0 ?_
  refine wp_bipush (v := 20) rfl (by decide) ?_
  refine wp_bipush (v := 119) rfl (by decide) ?_
  refine wp_bipush (v := 104) rfl (by decide) ?_
  refine wp_bipush (v := 105) rfl (by decide) ?_
  refine wp_bipush (v := 108) rfl (by decide) ?_
  refine wp_bipush (v := 101) rfl (by decide) ?_
  exact wp_callJ (av := [.int 119, .int 104, .int 105, .int 108, .int 101]) rfl rfl rfl (by decide) rfl rfl rfl hm hc w
set_option maxRecDepth 20000 in
theorem b236_1086 {n : Nat} {h : q_Hp} {Q : Option Value → q_Hp → Prop} {x0 : Nat} {s0 : Int64} {s1 : Int32} {s2 : Nat} {v0 : Nat} (k0 : q_ok h s2 21) (i0 : q_in s1 (qK h s2).2) (k1 : q_ok h x0 12) (e0 : qR h x0 9 = v0) {m : Nat} {P : Int64 → q_Hp → Prop} (hc : q_mJ m 244 [.int 108, .int 111, .int 111, .int 112, .int 0] (q_sL h s2 s1.toNatClampNeg s0) P) (hm : m ≤ n) (w : ∀ (z : Int64) (h1 : q_Hp), P z h1 → q_wp (n + 1) 236 1105 [some (.ref x0)] [.long z, .int 21, .ref v0] h1 Q) : q_wp (n + 1) 236 1086 [some (.ref x0)] [.long s0, .int s1, .ref s2] h Q := by
  refine wp_last rfl k0 i0 ?_
  refine wp_loc rfl rfl ?_
  refine wp_getR rfl rfl rfl rfl k1 e0 ?_
  refine wp_bipush (v := 21) rfl (by decide) ?_
  refine wp_bipush (v := 108) rfl (by decide) ?_
  refine wp_bipush (v := 111) rfl (by decide) ?_
  refine wp_bipush (v := 111) rfl (by decide) ?_
  refine wp_bipush (v := 112) rfl (by decide) ?_
  refine wp_iconst (v := 0) rfl (by decide) ?_
  exact wp_callJ (av := [.int 108, .int 111, .int 111, .int 112, .int 0]) rfl rfl rfl (by decide) rfl rfl rfl hm hc w
set_option maxRecDepth 20000 in
theorem b236_1105 {n : Nat} {h : q_Hp} {Q : Option Value → q_Hp → Prop} {x0 : Nat} {s0 : Int64} {s1 : Int32} {s2 : Nat} {v0 : Nat} (k0 : q_ok h s2 21) (i0 : q_in s1 (qK h s2).2) (k1 : q_ok h x0 12) (e0 : qR h x0 9 = v0) {m : Nat} {P : Int64 → q_Hp → Prop} (hc : q_mJ m 244 [.int 116, .int 114, .int 121, .int 0, .int 0] (q_sL h s2 s1.toNatClampNeg s0) P) (hm : m ≤ n) (w : ∀ (z : Int64) (h1 : q_Hp), P z h1 → q_wp (n + 1) 236 1123 [some (.ref x0)] [.long z, .int 22, .ref v0] h1 Q) : q_wp (n + 1) 236 1105 [some (.ref x0)] [.long s0, .int s1, .ref s2] h Q := by
  refine wp_last rfl k0 i0 ?_
  refine wp_loc rfl rfl ?_
  refine wp_getR rfl rfl rfl rfl k1 e0 ?_
  refine wp_bipush (v := 22) rfl (by decide) ?_
  refine wp_bipush (v := 116) rfl (by decide) ?_
  refine wp_bipush (v := 114) rfl (by decide) ?_
  refine wp_bipush (v := 121) rfl (by decide) ?_
  refine wp_iconst (v := 0) rfl (by decide) ?_
  refine wp_iconst (v := 0) rfl (by decide) ?_
  exact wp_callJ (av := [.int 116, .int 114, .int 121, .int 0, .int 0]) rfl rfl rfl (by decide) rfl rfl rfl hm hc w
set_option maxRecDepth 20000 in
theorem b236_1123 {n : Nat} {h : q_Hp} {Q : Option Value → q_Hp → Prop} {x0 : Nat} {s0 : Int64} {s1 : Int32} {s2 : Nat} {v0 : Nat} (k0 : q_ok h s2 21) (i0 : q_in s1 (qK h s2).2) (k1 : q_ok h x0 12) (e0 : qR h x0 9 = v0) {m : Nat} {P : Int64 → q_Hp → Prop} (hc : q_mJ m 244 [.int 116, .int 104, .int 101, .int 110, .int 0] (q_sL h s2 s1.toNatClampNeg s0) P) (hm : m ≤ n) (w : ∀ (z : Int64) (h1 : q_Hp), P z h1 → q_wp (n + 1) 236 1142 [some (.ref x0)] [.long z, .int 23, .ref v0] h1 Q) : q_wp (n + 1) 236 1123 [some (.ref x0)] [.long s0, .int s1, .ref s2] h Q := by
  refine wp_last rfl k0 i0 ?_
  refine wp_loc rfl rfl ?_
  refine wp_getR rfl rfl rfl rfl k1 e0 ?_
  refine wp_bipush (v := 23) rfl (by decide) ?_
  refine wp_bipush (v := 116) rfl (by decide) ?_
  refine wp_bipush (v := 104) rfl (by decide) ?_
  refine wp_bipush (v := 101) rfl (by decide) ?_
  refine wp_bipush (v := 110) rfl (by decide) ?_
  refine wp_iconst (v := 0) rfl (by decide) ?_
  exact wp_callJ (av := [.int 116, .int 104, .int 101, .int 110, .int 0]) rfl rfl rfl (by decide) rfl rfl rfl hm hc w
set_option maxRecDepth 20000 in
theorem b236_1142 {n : Nat} {h : q_Hp} {Q : Option Value → q_Hp → Prop} {x0 : Nat} {s0 : Int64} {s1 : Int32} {s2 : Nat} {v0 : Nat} (k0 : q_ok h s2 21) (i0 : q_in s1 (qK h s2).2) (k1 : q_ok h x0 12) (e0 : qR h x0 9 = v0) {m : Nat} {P : Int64 → q_Hp → Prop} (hc : q_mJ m 244 [.int 101, .int 108, .int 115, .int 101, .int 0] (q_sL h s2 s1.toNatClampNeg s0) P) (hm : m ≤ n) (w : ∀ (z : Int64) (h1 : q_Hp), P z h1 → q_wp (n + 1) 236 1161 [some (.ref x0)] [.long z, .int 24, .ref v0] h1 Q) : q_wp (n + 1) 236 1142 [some (.ref x0)] [.long s0, .int s1, .ref s2] h Q := by
  refine wp_last rfl k0 i0 ?_
  refine wp_loc rfl rfl ?_
  refine wp_getR rfl rfl rfl rfl k1 e0 ?_
  refine wp_bipush (v := 24) rfl (by decide) ?_
  refine wp_bipush (v := 101) rfl (by decide) ?_
  refine wp_bipush (v := 108) rfl (by decide) ?_
  refine wp_bipush (v := 115) rfl (by decide) ?_
  refine wp_bipush (v := 101) rfl (by decide) ?_
  refine wp_iconst (v := 0) rfl (by decide) ?_
  exact wp_callJ (av := [.int 101, .int 108, .int 115, .int 101, .int 0]) rfl rfl rfl (by decide) rfl rfl rfl hm hc w
set_option maxRecDepth 20000 in
theorem b236_1161 {n : Nat} {h : q_Hp} {Q : Option Value → q_Hp → Prop} {x0 : Nat} {s0 : Int64} {s1 : Int32} {s2 : Nat} (k0 : q_ok h s2 21) (i0 : q_in s1 (qK h s2).2) {m : Nat} {P : q_Hp → Prop} (hc : q_mV m 291 [.ref x0] (q_sL h s2 s1.toNatClampNeg s0) P) (hm : m ≤ n) (w : ∀ h1 : q_Hp, P h1 → q_wp (n + 1) 236 1166 [some (.ref x0)] [] h1 Q) : q_wp (n + 1) 236 1161 [some (.ref x0)] [.long s0, .int s1, .ref s2] h Q := by
  refine wp_last rfl k0 i0 ?_
  refine wp_loc rfl rfl ?_
  exact wp_callV (av := [.ref x0]) rfl rfl rfl (by decide) rfl rfl rfl hm hc w
set_option maxRecDepth 20000 in
theorem b236_1166 {n : Nat} {h : q_Hp} {Q : Option Value → q_Hp → Prop} {x0 : Nat} (q : Q none h) : q_wp n 236 1166 [some (.ref x0)] [] h Q := by
  exact wp_ret rfl rfl q
theorem b237_0 {n : Nat} {h : q_Hp} {Q : Option Value → q_Hp → Prop} {x0 : Nat} {x1 : Int32} {x2 : Int32} {x3 : Int32} {x4 : Int32} {x5 : Int32} (k0 : q_ok h x0 12) (wt : ((qI h x0 2) + 20) ≤ 4000 → q_wp n 237 15 [some (.ref x0), some (.int x1), some (.int x2), some (.int x3), some (.int x4), some (.int x5)] [] h Q) (wf : ¬ ((qI h x0 2) + 20) ≤ 4000 → q_wp n 237 13 [some (.ref x0), some (.int x1), some (.int x2), some (.int x3), some (.int x4), some (.int x5)] [] h Q) : q_wp n 237 0 [some (.ref x0), some (.int x1), some (.int x2), some (.int x3), some (.int x4), some (.int x5)] [] h Q := by
  refine wp_loc rfl rfl ?_
  refine wp_getI rfl rfl rfl k0 ?_
  refine wp_bipush (v := 20) rfl (by decide) ?_
  refine wp_stk rfl rfl rfl ?_
  refine wp_sipush (v := 4000) rfl (by decide) ?_
  exact wp_icle (tgt := 15) rfl (by decide) wt wf
theorem b237_13 {n : Nat} {h : q_Hp} {Q : Option Value → q_Hp → Prop} {x0 : Nat} {x1 : Int32} {x2 : Int32} {x3 : Int32} {x4 : Int32} {x5 : Int32} (q : Q (some (.int (-1))) h) : q_wp n 237 13 [some (.ref x0), some (.int x1), some (.int x2), some (.int x3), some (.int x4), some (.int x5)] [] h Q := by
  refine wp_iconst (v := (-1)) rfl (by decide) ?_
  exact wp_ret rfl rfl q
theorem b237_15 {n : Nat} {h : q_Hp} {Q : Option Value → q_Hp → Prop} {x0 : Nat} {x1 : Int32} {x2 : Int32} {x3 : Int32} {x4 : Int32} {x5 : Int32} {m : Nat} {P : q_Hp → Prop} (hc : q_mV m 238 [.ref x0, .int x1] h P) (hm : m ≤ n) (w : ∀ h1 : q_Hp, P h1 → q_wp (n + 1) 237 20 [some (.ref x0), some (.int x1), some (.int x2), some (.int x3), some (.int x4), some (.int x5)] [] h1 Q) : q_wp (n + 1) 237 15 [some (.ref x0), some (.int x1), some (.int x2), some (.int x3), some (.int x4), some (.int x5)] [] h Q := by
  refine wp_loc rfl rfl ?_
  refine wp_loc rfl rfl ?_
  exact wp_callV (av := [.ref x0, .int x1]) rfl rfl rfl (by decide) rfl rfl rfl hm hc w
theorem b237_20 {n : Nat} {h : q_Hp} {Q : Option Value → q_Hp → Prop} {x0 : Nat} {x1 : Int32} {x2 : Int32} {x3 : Int32} {x4 : Int32} {x5 : Int32} {m : Nat} {P : q_Hp → Prop} (hc : q_mV m 238 [.ref x0, .int x2] h P) (hm : m ≤ n) (w : ∀ h1 : q_Hp, P h1 → q_wp (n + 1) 237 25 [some (.ref x0), some (.int x1), some (.int x2), some (.int x3), some (.int x4), some (.int x5)] [] h1 Q) : q_wp (n + 1) 237 20 [some (.ref x0), some (.int x1), some (.int x2), some (.int x3), some (.int x4), some (.int x5)] [] h Q := by
  refine wp_loc rfl rfl ?_
  refine wp_loc rfl rfl ?_
  exact wp_callV (av := [.ref x0, .int x2]) rfl rfl rfl (by decide) rfl rfl rfl hm hc w
theorem b237_25 {n : Nat} {h : q_Hp} {Q : Option Value → q_Hp → Prop} {x0 : Nat} {x1 : Int32} {x2 : Int32} {x3 : Int32} {x4 : Int32} {x5 : Int32} {m : Nat} {P : q_Hp → Prop} (hc : q_mV m 238 [.ref x0, .int x3] h P) (hm : m ≤ n) (w : ∀ h1 : q_Hp, P h1 → q_wp (n + 1) 237 30 [some (.ref x0), some (.int x1), some (.int x2), some (.int x3), some (.int x4), some (.int x5)] [] h1 Q) : q_wp (n + 1) 237 25 [some (.ref x0), some (.int x1), some (.int x2), some (.int x3), some (.int x4), some (.int x5)] [] h Q := by
  refine wp_loc rfl rfl ?_
  refine wp_loc rfl rfl ?_
  exact wp_callV (av := [.ref x0, .int x3]) rfl rfl rfl (by decide) rfl rfl rfl hm hc w
theorem b237_30 {n : Nat} {h : q_Hp} {Q : Option Value → q_Hp → Prop} {x0 : Nat} {x1 : Int32} {x2 : Int32} {x3 : Int32} {x4 : Int32} {x5 : Int32} {m : Nat} {P : q_Hp → Prop} (hc : q_mV m 238 [.ref x0, .int x4] h P) (hm : m ≤ n) (w : ∀ h1 : q_Hp, P h1 → q_wp (n + 1) 237 36 [some (.ref x0), some (.int x1), some (.int x2), some (.int x3), some (.int x4), some (.int x5)] [] h1 Q) : q_wp (n + 1) 237 30 [some (.ref x0), some (.int x1), some (.int x2), some (.int x3), some (.int x4), some (.int x5)] [] h Q := by
  refine wp_loc rfl rfl ?_
  refine wp_loc rfl rfl ?_
  exact wp_callV (av := [.ref x0, .int x4]) rfl rfl rfl (by decide) rfl rfl rfl hm hc w
theorem b237_36 {n : Nat} {h : q_Hp} {Q : Option Value → q_Hp → Prop} {x0 : Nat} {x1 : Int32} {x2 : Int32} {x3 : Int32} {x4 : Int32} {x5 : Int32} {m : Nat} {P : q_Hp → Prop} (hc : q_mV m 238 [.ref x0, .int x5] h P) (hm : m ≤ n) (w : ∀ h1 : q_Hp, P h1 → q_wp (n + 1) 237 42 [some (.ref x0), some (.int x1), some (.int x2), some (.int x3), some (.int x4), some (.int x5)] [] h1 Q) : q_wp (n + 1) 237 36 [some (.ref x0), some (.int x1), some (.int x2), some (.int x3), some (.int x4), some (.int x5)] [] h Q := by
  refine wp_loc rfl rfl ?_
  refine wp_loc rfl rfl ?_
  exact wp_callV (av := [.ref x0, .int x5]) rfl rfl rfl (by decide) rfl rfl rfl hm hc w
theorem b237_42 {n : Nat} {h : q_Hp} {Q : Option Value → q_Hp → Prop} {x0 : Nat} {x1 : Int32} {x2 : Int32} {x3 : Int32} {x4 : Int32} {x5 : Int32} (k0 : q_ok h x0 12) (q : Q (some (.int (qI h x0 2))) h) : q_wp n 237 42 [some (.ref x0), some (.int x1), some (.int x2), some (.int x3), some (.int x4), some (.int x5)] [] h Q := by
  refine wp_loc rfl rfl ?_
  refine wp_getI rfl rfl rfl k0 ?_
  exact wp_ret rfl rfl q
theorem b238_0 {n : Nat} {h : q_Hp} {Q : Option Value → q_Hp → Prop} {x0 : Nat} {x1 : Int32} (w : q_wp n 238 3 [some (.ref x0), some (.int x1), some (.int 24)] [] h Q) : q_wp n 238 0 [some (.ref x0), some (.int x1), none] [] h Q := by
  refine wp_bipush (v := 24) rfl (by decide) ?_
  refine wp_loc rfl rfl ?_
  exact w
theorem b238_3 {n : Nat} {h : q_Hp} {Q : Option Value → q_Hp → Prop} {x0 : Nat} {x1 : Int32} {x2 : Int32} (wt : x2 < 0 → q_wp n 238 36 [some (.ref x0), some (.int x1), some (.int x2)] [] h Q) (wf : ¬ x2 < 0 → q_wp n 238 7 [some (.ref x0), some (.int x1), some (.int x2)] [] h Q) : q_wp n 238 3 [some (.ref x0), some (.int x1), some (.int x2)] [] h Q := by
  refine wp_loc rfl rfl ?_
  exact wp_iflt (tgt := 36) rfl (by decide) wt wf
theorem b238_7 {n : Nat} {h : q_Hp} {Q : Option Value → q_Hp → Prop} {x0 : Nat} {x1 : Int32} {x2 : Int32} {v0 : Nat} (k0 : q_ok h x0 12) (e0 : qR h x0 1 = v0) (k1 : q_ok h v0 22) (i0 : q_in (qI h x0 2) (qK h v0).2) (w : q_wp n 238 3 [some (.ref x0), some (.int x1), some (.int (x2 + (-8)))] [] (q_sI (q_sA h v0 ((qI h x0 2 : Int32).toNatClampNeg) (vp_nar .byte ((x1 >>> (x2 &&& 31) : Int32).toInt8.toInt32))) x0 2 ((qI h x0 2) + 1)) Q) : q_wp n 238 7 [some (.ref x0), some (.int x1), some (.int x2)] [] h Q := by
  refine wp_loc rfl rfl ?_
  refine wp_getR rfl rfl rfl rfl k0 e0 ?_
  refine wp_loc rfl rfl ?_
  refine wp_getI rfl rfl rfl k0 ?_
  refine wp_loc rfl rfl ?_
  refine wp_loc rfl rfl ?_
  refine wp_stk rfl rfl rfl ?_
  refine wp_stk rfl rfl rfl ?_
  refine wp_bast rfl k1 i0 ?_
  refine wp_loc rfl rfl ?_
  refine wp_stk rfl rfl rfl ?_
  refine wp_getI rfl rfl rfl k0 ?_
  refine wp_iconst (v := 1) rfl (by decide) ?_
  refine wp_stk rfl rfl rfl ?_
  refine wp_putI rfl rfl (Or.inl rfl) rfl (fun h9 => by cases h9) k0 ?_
  refine wp_iinc (v := (-8)) rfl rfl (by decide) rfl ?_
  refine wp_goto (tgt := 3) rfl (by decide) ?_
  exact w
theorem b238_36 {n : Nat} {h : q_Hp} {Q : Option Value → q_Hp → Prop} {x0 : Nat} {x1 : Int32} {x2 : Int32} (q : Q none h) : q_wp n 238 36 [some (.ref x0), some (.int x1), some (.int x2)] [] h Q := by
  exact wp_ret rfl rfl q
theorem b239_0 {n : Nat} {h : q_Hp} {Q : Option Value → q_Hp → Prop} {x0 : Nat} {x1 : Int32} (wt : x1 < 0 → q_wp n 239 12 [some (.ref x0), some (.int x1)] [] h Q) (wf : ¬ x1 < 0 → q_wp n 239 4 [some (.ref x0), some (.int x1)] [] h Q) : q_wp n 239 0 [some (.ref x0), some (.int x1)] [] h Q := by
  refine wp_loc rfl rfl ?_
  exact wp_iflt (tgt := 12) rfl (by decide) wt wf
theorem b239_4 {n : Nat} {h : q_Hp} {Q : Option Value → q_Hp → Prop} {x0 : Nat} {x1 : Int32} (k0 : q_ok h x0 12) (wt : x1 ≤ (qI h x0 2) → q_wp n 239 14 [some (.ref x0), some (.int x1)] [] h Q) (wf : ¬ x1 ≤ (qI h x0 2) → q_wp n 239 12 [some (.ref x0), some (.int x1)] [] h Q) : q_wp n 239 4 [some (.ref x0), some (.int x1)] [] h Q := by
  refine wp_loc rfl rfl ?_
  refine wp_loc rfl rfl ?_
  refine wp_getI rfl rfl rfl k0 ?_
  exact wp_icle (tgt := 14) rfl (by decide) wt wf
theorem b239_12 {n : Nat} {h : q_Hp} {Q : Option Value → q_Hp → Prop} {x0 : Nat} {x1 : Int32} (q : Q (some (.int (-1))) h) : q_wp n 239 12 [some (.ref x0), some (.int x1)] [] h Q := by
  refine wp_iconst (v := (-1)) rfl (by decide) ?_
  exact wp_ret rfl rfl q
theorem b239_14 {n : Nat} {h : q_Hp} {Q : Option Value → q_Hp → Prop} {x0 : Nat} {x1 : Int32} (k0 : q_ok h x0 12) (q : Q (some (.int (qI (q_sI h x0 2 ((qI h x0 2) - x1)) x0 2))) (q_sI h x0 2 ((qI h x0 2) - x1))) : q_wp n 239 14 [some (.ref x0), some (.int x1)] [] h Q := by
  refine wp_loc rfl rfl ?_
  refine wp_stk rfl rfl rfl ?_
  refine wp_getI rfl rfl rfl k0 ?_
  refine wp_loc rfl rfl ?_
  refine wp_stk rfl rfl rfl ?_
  refine wp_putI rfl rfl (Or.inl rfl) rfl (fun h9 => by cases h9) k0 ?_
  refine wp_loc rfl rfl ?_
  refine wp_getI rfl rfl rfl k0 ?_
  exact wp_ret rfl rfl q
theorem b240_0 {n : Nat} {h : q_Hp} {Q : Option Value → q_Hp → Prop} {x0 : Nat} {x1 : Int32} (k0 : q_ok h x0 12) (wt : (qI h x0 4) ≤ x1 → q_wp n 240 21 [some (.ref x0), some (.int x1)] [] h Q) (wf : ¬ (qI h x0 4) ≤ x1 → q_wp n 240 8 [some (.ref x0), some (.int x1)] [] h Q) : q_wp n 240 0 [some (.ref x0), some (.int x1)] [] h Q := by
  refine wp_loc rfl rfl ?_
  refine wp_loc rfl rfl ?_
  refine wp_getI rfl rfl rfl k0 ?_
  exact wp_icge (tgt := 21) rfl (by decide) wt wf
theorem b240_8 {n : Nat} {h : q_Hp} {Q : Option Value → q_Hp → Prop} {x0 : Nat} {x1 : Int32} {v0 : Nat} (k0 : q_ok h x0 12) (e0 : qR h x0 3 = v0) (b2 : q_ok h v0 22 ∨ q_ok h v0 23) (i0 : q_in x1 (qK h v0).2) (q : Q (some (.int ((qA h v0 x1.toNatClampNeg) &&& 255))) h) : q_wp n 240 8 [some (.ref x0), some (.int x1)] [] h Q := by
  refine wp_loc rfl rfl ?_
  refine wp_getR rfl rfl rfl rfl k0 e0 ?_
  refine wp_loc rfl rfl ?_
  refine wp_bald rfl b2 i0 ?_
  refine wp_sipush (v := 255) rfl (by decide) ?_
  refine wp_stk rfl rfl rfl ?_
  refine wp_goto (tgt := 22) rfl (by decide) ?_
  exact wp_ret rfl rfl q
theorem b240_21 {n : Nat} {h : q_Hp} {Q : Option Value → q_Hp → Prop} {x0 : Nat} {x1 : Int32} (q : Q (some (.int 0)) h) : q_wp n 240 21 [some (.ref x0), some (.int x1)] [] h Q := by
  refine wp_iconst (v := 0) rfl (by decide) ?_
  exact wp_ret rfl rfl q
theorem b241_0 {n : Nat} {h : q_Hp} {Q : Option Value → q_Hp → Prop} {x0 : Int32} (wt : x0 < 48 → q_wp n 241 16 [some (.int x0)] [] h Q) (wf : ¬ x0 < 48 → q_wp n 241 6 [some (.int x0)] [] h Q) : q_wp n 241 0 [some (.int x0)] [] h Q := by
  refine wp_loc rfl rfl ?_
  refine wp_bipush (v := 48) rfl (by decide) ?_
  exact wp_iclt (tgt := 16) rfl (by decide) wt wf
theorem b241_6 {n : Nat} {h : q_Hp} {Q : Option Value → q_Hp → Prop} {x0 : Int32} (wt : 57 < x0 → q_wp n 241 16 [some (.int x0)] [] h Q) (wf : ¬ 57 < x0 → q_wp n 241 12 [some (.int x0)] [] h Q) : q_wp n 241 6 [some (.int x0)] [] h Q := by
  refine wp_loc rfl rfl ?_
  refine wp_bipush (v := 57) rfl (by decide) ?_
  exact wp_icgt (tgt := 16) rfl (by decide) wt wf
theorem b241_12 {n : Nat} {h : q_Hp} {Q : Option Value → q_Hp → Prop} {x0 : Int32} (q : Q (some (.int 1)) h) : q_wp n 241 12 [some (.int x0)] [] h Q := by
  refine wp_iconst (v := 1) rfl (by decide) ?_
  refine wp_goto (tgt := 17) rfl (by decide) ?_
  exact wp_ret (r := some (.int 1)) rfl rfl q
theorem b241_16 {n : Nat} {h : q_Hp} {Q : Option Value → q_Hp → Prop} {x0 : Int32} (q : Q (some (.int 0)) h) : q_wp n 241 16 [some (.int x0)] [] h Q := by
  refine wp_iconst (v := 0) rfl (by decide) ?_
  exact wp_ret (r := some (.int 0)) rfl rfl q
theorem b242_0 {n : Nat} {h : q_Hp} {Q : Option Value → q_Hp → Prop} {x0 : Int32} (wt : x0 < 97 → q_wp n 242 16 [some (.int x0)] [] h Q) (wf : ¬ x0 < 97 → q_wp n 242 6 [some (.int x0)] [] h Q) : q_wp n 242 0 [some (.int x0)] [] h Q := by
  refine wp_loc rfl rfl ?_
  refine wp_bipush (v := 97) rfl (by decide) ?_
  exact wp_iclt (tgt := 16) rfl (by decide) wt wf
theorem b242_6 {n : Nat} {h : q_Hp} {Q : Option Value → q_Hp → Prop} {x0 : Int32} (wt : 122 < x0 → q_wp n 242 16 [some (.int x0)] [] h Q) (wf : ¬ 122 < x0 → q_wp n 242 12 [some (.int x0)] [] h Q) : q_wp n 242 6 [some (.int x0)] [] h Q := by
  refine wp_loc rfl rfl ?_
  refine wp_bipush (v := 122) rfl (by decide) ?_
  exact wp_icgt (tgt := 16) rfl (by decide) wt wf
theorem b242_12 {n : Nat} {h : q_Hp} {Q : Option Value → q_Hp → Prop} {x0 : Int32} (q : Q (some (.int 1)) h) : q_wp n 242 12 [some (.int x0)] [] h Q := by
  refine wp_iconst (v := 1) rfl (by decide) ?_
  refine wp_goto (tgt := 17) rfl (by decide) ?_
  exact wp_ret (r := some (.int 1)) rfl rfl q
theorem b242_16 {n : Nat} {h : q_Hp} {Q : Option Value → q_Hp → Prop} {x0 : Int32} (q : Q (some (.int 0)) h) : q_wp n 242 16 [some (.int x0)] [] h Q := by
  refine wp_iconst (v := 0) rfl (by decide) ?_
  exact wp_ret (r := some (.int 0)) rfl rfl q
theorem b243_0 {n : Nat} {h : q_Hp} {Q : Option Value → q_Hp → Prop} {x0 : Int64} {x2 : Int32} (wt : ¬ x2 = 0 → q_wp n 243 8 [some (.long x0), none, some (.int x2)] [] h Q) (wf : x2 = 0 → q_wp n 243 4 [some (.long x0), none, some (.int x2)] [] h Q) : q_wp n 243 0 [some (.long x0), none, some (.int x2)] [] h Q := by
  refine wp_loc rfl rfl ?_
  exact wp_ifne (tgt := 8) rfl (by decide) wt wf
theorem b243_4 {n : Nat} {h : q_Hp} {Q : Option Value → q_Hp → Prop} {x0 : Int64} {x2 : Int32} (q : Q (some (.long x0)) h) : q_wp n 243 4 [some (.long x0), none, some (.int x2)] [] h Q := by
  refine wp_loc rfl rfl ?_
  refine wp_goto (tgt := 38) rfl (by decide) ?_
  exact wp_ret rfl rfl q
theorem b243_8 {n : Nat} {h : q_Hp} {Q : Option Value → q_Hp → Prop} {x0 : Int64} {x2 : Int32} {m : Nat} {P : Int32 → q_Hp → Prop} (hc : q_mI m 241 [.int x2] h P) (hm : m ≤ n) (w : ∀ (z : Int32) (h1 : q_Hp), P z h1 → q_wp (n + 1) 243 17 [some (.long x0), none, some (.int x2)] [.int z, .long (37 * x0)] h1 Q) : q_wp (n + 1) 243 8 [some (.long x0), none, some (.int x2)] [] h Q := by
  refine wp_stk (m := 3) (st' := .long 37 :: _) rfl rfl rfl ?_
  refine wp_loc rfl rfl ?_
  refine wp_stk rfl rfl rfl ?_
  refine wp_loc rfl rfl ?_
  exact wp_callI (av := [.int x2]) rfl rfl rfl (by decide) rfl rfl rfl hm hc w
theorem b243_17 {n : Nat} {h : q_Hp} {Q : Option Value → q_Hp → Prop} {x0 : Int64} {x2 : Int32} {s0 : Int32} {s1 : Int64} (wt : s0 = 0 → q_wp n 243 30 [some (.long x0), none, some (.int x2)] [.long s1] h Q) (wf : ¬ s0 = 0 → q_wp n 243 20 [some (.long x0), none, some (.int x2)] [.long s1] h Q) : q_wp n 243 17 [some (.long x0), none, some (.int x2)] [.int s0, .long s1] h Q := by
  exact wp_ifeq (tgt := 30) rfl (by decide) wt wf
theorem b243_20 {n : Nat} {h : q_Hp} {Q : Option Value → q_Hp → Prop} {x0 : Int64} {x2 : Int32} {s0 : Int64} (w : q_wp n 243 36 [some (.long x0), none, some (.int x2)] [.int ((x2 - 48) + 27), .long s0] h Q) : q_wp n 243 20 [some (.long x0), none, some (.int x2)] [.long s0] h Q := by
  refine wp_loc rfl rfl ?_
  refine wp_bipush (v := 48) rfl (by decide) ?_
  refine wp_stk rfl rfl rfl ?_
  refine wp_bipush (v := 27) rfl (by decide) ?_
  refine wp_stk rfl rfl rfl ?_
  refine wp_goto (tgt := 36) rfl (by decide) ?_
  exact w
theorem b243_30 {n : Nat} {h : q_Hp} {Q : Option Value → q_Hp → Prop} {x0 : Int64} {x2 : Int32} {s0 : Int64} (w : q_wp n 243 36 [some (.long x0), none, some (.int x2)] [.int ((x2 - 97) + 1), .long s0] h Q) : q_wp n 243 30 [some (.long x0), none, some (.int x2)] [.long s0] h Q := by
  refine wp_loc rfl rfl ?_
  refine wp_bipush (v := 97) rfl (by decide) ?_
  refine wp_stk rfl rfl rfl ?_
  refine wp_iconst (v := 1) rfl (by decide) ?_
  refine wp_stk rfl rfl rfl ?_
  exact w
theorem b243_36 {n : Nat} {h : q_Hp} {Q : Option Value → q_Hp → Prop} {x0 : Int64} {x2 : Int32} {s0 : Int32} {s1 : Int64} (q : Q (some (.long (s1 + ((s0 : Int32).toInt64)))) h) : q_wp n 243 36 [some (.long x0), none, some (.int x2)] [.int s0, .long s1] h Q := by
  refine wp_stk rfl rfl rfl ?_
  refine wp_stk rfl rfl rfl ?_
  exact wp_ret rfl rfl q
theorem b244_0 {n : Nat} {h : q_Hp} {Q : Option Value → q_Hp → Prop} {x0 : Int32} {x1 : Int32} {x2 : Int32} {x3 : Int32} {x4 : Int32} {m : Nat} {P : Int64 → q_Hp → Prop} (hc : q_mJ m 243 [.long 0, .int x0] h P) (hm : m ≤ n) (w : ∀ (z : Int64) (h1 : q_Hp), P z h1 → q_wp (n + 1) 244 5 [some (.int x0), some (.int x1), some (.int x2), some (.int x3), some (.int x4)] [.long z] h1 Q) : q_wp (n + 1) 244 0 [some (.int x0), some (.int x1), some (.int x2), some (.int x3), some (.int x4)] [] h Q := by
  refine wp_lconst (v := 0) rfl (by decide) ?_
  refine wp_loc rfl rfl ?_
  exact wp_callJ (av := [.long 0, .int x0]) rfl rfl rfl (by decide) rfl rfl rfl hm hc w
theorem b244_5 {n : Nat} {h : q_Hp} {Q : Option Value → q_Hp → Prop} {x0 : Int32} {x1 : Int32} {x2 : Int32} {x3 : Int32} {x4 : Int32} {s0 : Int64} {m : Nat} {P : Int64 → q_Hp → Prop} (hc : q_mJ m 243 [.long s0, .int x1] h P) (hm : m ≤ n) (w : ∀ (z : Int64) (h1 : q_Hp), P z h1 → q_wp (n + 1) 244 9 [some (.int x0), some (.int x1), some (.int x2), some (.int x3), some (.int x4)] [.long z] h1 Q) : q_wp (n + 1) 244 5 [some (.int x0), some (.int x1), some (.int x2), some (.int x3), some (.int x4)] [.long s0] h Q := by
  refine wp_loc rfl rfl ?_
  exact wp_callJ (av := [.long s0, .int x1]) rfl rfl rfl (by decide) rfl rfl rfl hm hc w
theorem b244_9 {n : Nat} {h : q_Hp} {Q : Option Value → q_Hp → Prop} {x0 : Int32} {x1 : Int32} {x2 : Int32} {x3 : Int32} {x4 : Int32} {s0 : Int64} {m : Nat} {P : Int64 → q_Hp → Prop} (hc : q_mJ m 243 [.long s0, .int x2] h P) (hm : m ≤ n) (w : ∀ (z : Int64) (h1 : q_Hp), P z h1 → q_wp (n + 1) 244 13 [some (.int x0), some (.int x1), some (.int x2), some (.int x3), some (.int x4)] [.long z] h1 Q) : q_wp (n + 1) 244 9 [some (.int x0), some (.int x1), some (.int x2), some (.int x3), some (.int x4)] [.long s0] h Q := by
  refine wp_loc rfl rfl ?_
  exact wp_callJ (av := [.long s0, .int x2]) rfl rfl rfl (by decide) rfl rfl rfl hm hc w
theorem b244_13 {n : Nat} {h : q_Hp} {Q : Option Value → q_Hp → Prop} {x0 : Int32} {x1 : Int32} {x2 : Int32} {x3 : Int32} {x4 : Int32} {s0 : Int64} {m : Nat} {P : Int64 → q_Hp → Prop} (hc : q_mJ m 243 [.long s0, .int x3] h P) (hm : m ≤ n) (w : ∀ (z : Int64) (h1 : q_Hp), P z h1 → q_wp (n + 1) 244 17 [some (.int x0), some (.int x1), some (.int x2), some (.int x3), some (.int x4)] [.long z] h1 Q) : q_wp (n + 1) 244 13 [some (.int x0), some (.int x1), some (.int x2), some (.int x3), some (.int x4)] [.long s0] h Q := by
  refine wp_loc rfl rfl ?_
  exact wp_callJ (av := [.long s0, .int x3]) rfl rfl rfl (by decide) rfl rfl rfl hm hc w
theorem b244_17 {n : Nat} {h : q_Hp} {Q : Option Value → q_Hp → Prop} {x0 : Int32} {x1 : Int32} {x2 : Int32} {x3 : Int32} {x4 : Int32} {s0 : Int64} {m : Nat} {P : Int64 → q_Hp → Prop} (hc : q_mJ m 243 [.long s0, .int x4] h P) (hm : m ≤ n) (w : ∀ (z : Int64) (h1 : q_Hp), P z h1 → q_wp (n + 1) 244 22 [some (.int x0), some (.int x1), some (.int x2), some (.int x3), some (.int x4)] [.long z] h1 Q) : q_wp (n + 1) 244 17 [some (.int x0), some (.int x1), some (.int x2), some (.int x3), some (.int x4)] [.long s0] h Q := by
  refine wp_loc rfl rfl ?_
  exact wp_callJ (av := [.long s0, .int x4]) rfl rfl rfl (by decide) rfl rfl rfl hm hc w
theorem b244_22 {n : Nat} {h : q_Hp} {Q : Option Value → q_Hp → Prop} {x0 : Int32} {x1 : Int32} {x2 : Int32} {x3 : Int32} {x4 : Int32} {s0 : Int64} (q : Q (some (.long s0)) h) : q_wp n 244 22 [some (.int x0), some (.int x1), some (.int x2), some (.int x3), some (.int x4)] [.long s0] h Q := by
  exact wp_ret rfl rfl q
theorem b245_0 {n : Nat} {h : q_Hp} {Q : Option Value → q_Hp → Prop} {x0 : Nat} {x1 : Int32} {x2 : Int32} {x3 : Int32} {x4 : Int64} {v0 : Nat} {v1 : Nat} {v2 : Nat} {v3 : Nat} (k0 : q_ok h x0 12) (e0 : qR h x0 5 = v0) (k1 : q_ok h v0 20) (i0 : q_in (qI h x0 10) (qK h v0).2) (e1 : qR h x0 6 = v1) (k2 : q_ok h v1 20) (i1 : q_in (qI h x0 10) (qK h v1).2) (e2 : qR h x0 7 = v2) (k3 : q_ok h v2 20) (i2 : q_in (qI h x0 10) (qK h v2).2) (e3 : qR h x0 8 = v3) (k4 : q_ok h v3 21) (i3 : q_in (qI h x0 10) (qK h v3).2) (q : Q none (q_sI (q_sL (q_sA (q_sA (q_sA h v0 ((qI h x0 10 : Int32).toNatClampNeg) x1) v1 ((qI h x0 10 : Int32).toNatClampNeg) x2) v2 ((qI h x0 10 : Int32).toNatClampNeg) x3) v3 ((qI h x0 10 : Int32).toNatClampNeg) x4) x0 10 ((qI h x0 10) + 1))) : q_wp n 245 0 [some (.ref x0), some (.int x1), some (.int x2), some (.int x3), some (.long x4), none] [] h Q := by
  refine wp_loc rfl rfl ?_
  refine wp_getR rfl rfl rfl rfl k0 e0 ?_
  refine wp_loc rfl rfl ?_
  refine wp_getI rfl rfl rfl k0 ?_
  refine wp_loc rfl rfl ?_
  refine wp_iast rfl k1 i0 ?_
  refine wp_loc rfl rfl ?_
  refine wp_getR rfl rfl rfl rfl k0 e1 ?_
  refine wp_loc rfl rfl ?_
  refine wp_getI rfl rfl rfl k0 ?_
  refine wp_loc rfl rfl ?_
  refine wp_iast rfl k2 i1 ?_
  refine wp_loc rfl rfl ?_
  refine wp_getR rfl rfl rfl rfl k0 e2 ?_
  refine wp_loc rfl rfl ?_
  refine wp_getI rfl rfl rfl k0 ?_
  refine wp_loc rfl rfl ?_
  refine wp_iast rfl k3 i2 ?_
  refine wp_loc rfl rfl ?_
  refine wp_getR rfl rfl rfl rfl k0 e3 ?_
  refine wp_loc rfl rfl ?_
  refine wp_getI rfl rfl rfl k0 ?_
  refine wp_loc rfl rfl ?_
  refine wp_last rfl k4 i3 ?_
  refine wp_loc rfl rfl ?_
  refine wp_stk rfl rfl rfl ?_
  refine wp_getI rfl rfl rfl k0 ?_
  refine wp_iconst (v := 1) rfl (by decide) ?_
  refine wp_stk rfl rfl rfl ?_
  refine wp_putI rfl rfl (Or.inl rfl) rfl (fun h9 => by cases h9) k0 ?_
  exact wp_ret rfl rfl q
set_option maxRecDepth 20000 in
theorem b246_0 {n : Nat} {h : q_Hp} {Q : Option Value → q_Hp → Prop} {x0 : Nat} (k0 : q_ok h x0 12) (w : q_wp n 246 7 [some (.ref x0), some (.int 0), none, none, none, none] [] (q_sI h x0 10 0) Q) : q_wp n 246 0 [some (.ref x0), none, none, none, none, none] [] h Q := by
  refine wp_loc rfl rfl ?_
  refine wp_iconst (v := 0) rfl (by decide) ?_
  refine wp_putI rfl rfl (Or.inl rfl) rfl (fun h9 => by cases h9) k0 ?_
  refine wp_iconst (v := 0) rfl (by decide) ?_
  refine wp_loc rfl rfl ?_
  exact w
set_option maxRecDepth 20000 in
theorem b246_7 {n : Nat} {h : q_Hp} {Q : Option Value → q_Hp → Prop} {x0 : Nat} {x1 : Int32} {l2 : Option Value} {l3 : Option Value} {l4 : Option Value} (k0 : q_ok h x0 12) (wt : 1200 < (qI h x0 10) → q_wp n 246 252 [some (.ref x0), some (.int x1), l2, l3, l4, none] [] h Q) (wf : ¬ 1200 < (qI h x0 10) → q_wp n 246 17 [some (.ref x0), some (.int x1), l2, l3, l4, none] [] h Q) : q_wp n 246 7 [some (.ref x0), some (.int x1), l2, l3, l4, none] [] h Q := by
  refine wp_loc rfl rfl ?_
  refine wp_getI rfl rfl rfl k0 ?_
  refine wp_sipush (v := 1200) rfl (by decide) ?_
  exact wp_icgt (tgt := 252) rfl (by decide) wt wf
set_option maxRecDepth 20000 in
theorem b246_17 {n : Nat} {h : q_Hp} {Q : Option Value → q_Hp → Prop} {x0 : Nat} {x1 : Int32} {l2 : Option Value} {l3 : Option Value} {l4 : Option Value} {m : Nat} {P : Int32 → q_Hp → Prop} (hc : q_mI m 240 [.ref x0, .int x1] h P) (hm : m ≤ n) (w : ∀ (z : Int32) (h1 : q_Hp), P z h1 → q_wp (n + 1) 246 22 [some (.ref x0), some (.int x1), l2, l3, l4, none] [.int z] h1 Q) : q_wp (n + 1) 246 17 [some (.ref x0), some (.int x1), l2, l3, l4, none] [] h Q := by
  refine wp_loc rfl rfl ?_
  refine wp_loc rfl rfl ?_
  exact wp_callI (av := [.ref x0, .int x1]) rfl rfl rfl (by decide) rfl rfl rfl hm hc w
set_option maxRecDepth 20000 in
theorem b246_22 {n : Nat} {h : q_Hp} {Q : Option Value → q_Hp → Prop} {x0 : Nat} {x1 : Int32} {l2 : Option Value} {l3 : Option Value} {l4 : Option Value} {s0 : Int32} (k0 : q_ok h x0 12) (wt : x1 < (qI h x0 4) → q_wp n 246 43 [some (.ref x0), some (.int x1), some (.int s0), l3, l4, none] [] h Q) (wf : ¬ x1 < (qI h x0 4) → q_wp n 246 31 [some (.ref x0), some (.int x1), some (.int s0), l3, l4, none] [] h Q) : q_wp n 246 22 [some (.ref x0), some (.int x1), l2, l3, l4, none] [.int s0] h Q := by
  refine wp_loc rfl rfl ?_
  refine wp_loc rfl rfl ?_
  refine wp_loc rfl rfl ?_
  refine wp_getI rfl rfl rfl k0 ?_
  exact wp_iclt (tgt := 43) rfl (by decide) wt wf
set_option maxRecDepth 20000 in
theorem b246_31 {n : Nat} {h : q_Hp} {Q : Option Value → q_Hp → Prop} {x0 : Nat} {x1 : Int32} {x2 : Int32} {l3 : Option Value} {l4 : Option Value} (k0 : q_ok h x0 12) {m : Nat} {P : q_Hp → Prop} (hc : q_mV m 245 [.ref x0, .int 0, .int (qI h x0 4), .int 0, .long 0] h P) (hm : m ≤ n) (w : ∀ h1 : q_Hp, P h1 → q_wp (n + 1) 246 42 [some (.ref x0), some (.int x1), some (.int x2), l3, l4, none] [] h1 Q) : q_wp (n + 1) 246 31 [some (.ref x0), some (.int x1), some (.int x2), l3, l4, none] [] h Q := by
  refine wp_loc rfl rfl ?_
  refine wp_iconst (v := 0) rfl (by decide) ?_
  refine wp_loc rfl rfl ?_
  refine wp_getI rfl rfl rfl k0 ?_
  refine wp_iconst (v := 0) rfl (by decide) ?_
  refine wp_lconst (v := 0) rfl (by decide) ?_
  exact wp_callV (av := [.ref x0, .int 0, .int (qI h x0 4), .int 0, .long 0]) rfl rfl rfl (by decide) rfl rfl rfl hm hc w
set_option maxRecDepth 20000 in
theorem b246_42 {n : Nat} {h : q_Hp} {Q : Option Value → q_Hp → Prop} {x0 : Nat} {x1 : Int32} {x2 : Int32} {l3 : Option Value} {l4 : Option Value} (q : Q none h) : q_wp n 246 42 [some (.ref x0), some (.int x1), some (.int x2), l3, l4, none] [] h Q := by
  exact wp_ret rfl rfl q
set_option maxRecDepth 20000 in
theorem b246_43 {n : Nat} {h : q_Hp} {Q : Option Value → q_Hp → Prop} {x0 : Nat} {x1 : Int32} {x2 : Int32} {l3 : Option Value} {l4 : Option Value} (wt : x2 = 9 → q_wp n 246 67 [some (.ref x0), some (.int x1), some (.int x2), l3, l4, none] [] h Q) (wf : ¬ x2 = 9 → q_wp n 246 49 [some (.ref x0), some (.int x1), some (.int x2), l3, l4, none] [] h Q) : q_wp n 246 43 [some (.ref x0), some (.int x1), some (.int x2), l3, l4, none] [] h Q := by
  refine wp_loc rfl rfl ?_
  refine wp_bipush (v := 9) rfl (by decide) ?_
  exact wp_iceq (tgt := 67) rfl (by decide) wt wf
set_option maxRecDepth 20000 in
theorem b246_49 {n : Nat} {h : q_Hp} {Q : Option Value → q_Hp → Prop} {x0 : Nat} {x1 : Int32} {x2 : Int32} {l3 : Option Value} {l4 : Option Value} (wt : x2 = 10 → q_wp n 246 67 [some (.ref x0), some (.int x1), some (.int x2), l3, l4, none] [] h Q) (wf : ¬ x2 = 10 → q_wp n 246 55 [some (.ref x0), some (.int x1), some (.int x2), l3, l4, none] [] h Q) : q_wp n 246 49 [some (.ref x0), some (.int x1), some (.int x2), l3, l4, none] [] h Q := by
  refine wp_loc rfl rfl ?_
  refine wp_bipush (v := 10) rfl (by decide) ?_
  exact wp_iceq (tgt := 67) rfl (by decide) wt wf
set_option maxRecDepth 20000 in
theorem b246_55 {n : Nat} {h : q_Hp} {Q : Option Value → q_Hp → Prop} {x0 : Nat} {x1 : Int32} {x2 : Int32} {l3 : Option Value} {l4 : Option Value} (wt : x2 = 13 → q_wp n 246 67 [some (.ref x0), some (.int x1), some (.int x2), l3, l4, none] [] h Q) (wf : ¬ x2 = 13 → q_wp n 246 61 [some (.ref x0), some (.int x1), some (.int x2), l3, l4, none] [] h Q) : q_wp n 246 55 [some (.ref x0), some (.int x1), some (.int x2), l3, l4, none] [] h Q := by
  refine wp_loc rfl rfl ?_
  refine wp_bipush (v := 13) rfl (by decide) ?_
  exact wp_iceq (tgt := 67) rfl (by decide) wt wf
set_option maxRecDepth 20000 in
theorem b246_61 {n : Nat} {h : q_Hp} {Q : Option Value → q_Hp → Prop} {x0 : Nat} {x1 : Int32} {x2 : Int32} {l3 : Option Value} {l4 : Option Value} (wt : ¬ x2 = 32 → q_wp n 246 73 [some (.ref x0), some (.int x1), some (.int x2), l3, l4, none] [] h Q) (wf : x2 = 32 → q_wp n 246 67 [some (.ref x0), some (.int x1), some (.int x2), l3, l4, none] [] h Q) : q_wp n 246 61 [some (.ref x0), some (.int x1), some (.int x2), l3, l4, none] [] h Q := by
  refine wp_loc rfl rfl ?_
  refine wp_bipush (v := 32) rfl (by decide) ?_
  exact wp_icne (tgt := 73) rfl (by decide) wt wf
set_option maxRecDepth 20000 in
theorem b246_67 {n : Nat} {h : q_Hp} {Q : Option Value → q_Hp → Prop} {x0 : Nat} {x1 : Int32} {x2 : Int32} {l3 : Option Value} {l4 : Option Value} (w : q_wp n 246 249 [some (.ref x0), some (.int (x1 + 1)), some (.int x2), l3, l4, none] [] h Q) : q_wp n 246 67 [some (.ref x0), some (.int x1), some (.int x2), l3, l4, none] [] h Q := by
  refine wp_iinc (v := 1) rfl rfl (by decide) rfl ?_
  refine wp_goto (tgt := 249) rfl (by decide) ?_
  exact w
set_option maxRecDepth 20000 in
theorem b246_73 {n : Nat} {h : q_Hp} {Q : Option Value → q_Hp → Prop} {x0 : Nat} {x1 : Int32} {x2 : Int32} {l3 : Option Value} {l4 : Option Value} {m : Nat} {P : Int32 → q_Hp → Prop} (hc : q_mI m 242 [.int x2] h P) (hm : m ≤ n) (w : ∀ (z : Int32) (h1 : q_Hp), P z h1 → q_wp (n + 1) 246 77 [some (.ref x0), some (.int x1), some (.int x2), l3, l4, none] [.int z] h1 Q) : q_wp (n + 1) 246 73 [some (.ref x0), some (.int x1), some (.int x2), l3, l4, none] [] h Q := by
  refine wp_loc rfl rfl ?_
  exact wp_callI (av := [.int x2]) rfl rfl rfl (by decide) rfl rfl rfl hm hc w
set_option maxRecDepth 20000 in
theorem b246_77 {n : Nat} {h : q_Hp} {Q : Option Value → q_Hp → Prop} {x0 : Nat} {x1 : Int32} {x2 : Int32} {l3 : Option Value} {l4 : Option Value} {s0 : Int32} (wt : s0 = 0 → q_wp n 246 152 [some (.ref x0), some (.int x1), some (.int x2), l3, l4, none] [] h Q) (wf : ¬ s0 = 0 → q_wp n 246 80 [some (.ref x0), some (.int x1), some (.int x2), l3, l4, none] [] h Q) : q_wp n 246 77 [some (.ref x0), some (.int x1), some (.int x2), l3, l4, none] [.int s0] h Q := by
  exact wp_ifeq (tgt := 152) rfl (by decide) wt wf
set_option maxRecDepth 20000 in
theorem b246_80 {n : Nat} {h : q_Hp} {Q : Option Value → q_Hp → Prop} {x0 : Nat} {x1 : Int32} {x2 : Int32} {l3 : Option Value} {l4 : Option Value} (w : q_wp n 246 85 [some (.ref x0), some (.int x1), some (.int x2), some (.int 0), some (.long 0), none] [] h Q) : q_wp n 246 80 [some (.ref x0), some (.int x1), some (.int x2), l3, l4, none] [] h Q := by
  refine wp_iconst (v := 0) rfl (by decide) ?_
  refine wp_loc rfl rfl ?_
  refine wp_lconst (v := 0) rfl (by decide) ?_
  refine wp_loc rfl rfl ?_
  exact w
set_option maxRecDepth 20000 in
theorem b246_85 {n : Nat} {h : q_Hp} {Q : Option Value → q_Hp → Prop} {x0 : Nat} {x1 : Int32} {x2 : Int32} {x3 : Int32} {x4 : Int64} {m : Nat} {P : Int32 → q_Hp → Prop} (hc : q_mI m 240 [.ref x0, .int (x1 + x3)] h P) (hm : m ≤ n) (w : ∀ (z : Int32) (h1 : q_Hp), P z h1 → q_wp (n + 1) 246 92 [some (.ref x0), some (.int x1), some (.int x2), some (.int x3), some (.long x4), none] [.int z] h1 Q) : q_wp (n + 1) 246 85 [some (.ref x0), some (.int x1), some (.int x2), some (.int x3), some (.long x4), none] [] h Q := by
  refine wp_loc rfl rfl ?_
  refine wp_loc rfl rfl ?_
  refine wp_loc rfl rfl ?_
  refine wp_stk rfl rfl rfl ?_
  exact wp_callI (av := [.ref x0, .int (x1 + x3)]) rfl rfl rfl (by decide) rfl rfl rfl hm hc w
set_option maxRecDepth 20000 in
theorem b246_92 {n : Nat} {h : q_Hp} {Q : Option Value → q_Hp → Prop} {x0 : Nat} {x1 : Int32} {x2 : Int32} {x3 : Int32} {x4 : Int64} {s0 : Int32} {m : Nat} {P : Int32 → q_Hp → Prop} (hc : q_mI m 242 [.int s0] h P) (hm : m ≤ n) (w : ∀ (z : Int32) (h1 : q_Hp), P z h1 → q_wp (n + 1) 246 95 [some (.ref x0), some (.int x1), some (.int x2), some (.int x3), some (.long x4), none] [.int z] h1 Q) : q_wp (n + 1) 246 92 [some (.ref x0), some (.int x1), some (.int x2), some (.int x3), some (.long x4), none] [.int s0] h Q := by
  exact wp_callI (av := [.int s0]) rfl rfl rfl (by decide) rfl rfl rfl hm hc w
set_option maxRecDepth 20000 in
theorem b246_95 {n : Nat} {h : q_Hp} {Q : Option Value → q_Hp → Prop} {x0 : Nat} {x1 : Int32} {x2 : Int32} {x3 : Int32} {x4 : Int64} {s0 : Int32} (wt : ¬ s0 = 0 → q_wp n 246 111 [some (.ref x0), some (.int x1), some (.int x2), some (.int x3), some (.long x4), none] [] h Q) (wf : s0 = 0 → q_wp n 246 98 [some (.ref x0), some (.int x1), some (.int x2), some (.int x3), some (.long x4), none] [] h Q) : q_wp n 246 95 [some (.ref x0), some (.int x1), some (.int x2), some (.int x3), some (.long x4), none] [.int s0] h Q := by
  exact wp_ifne (tgt := 111) rfl (by decide) wt wf
set_option maxRecDepth 20000 in
theorem b246_98 {n : Nat} {h : q_Hp} {Q : Option Value → q_Hp → Prop} {x0 : Nat} {x1 : Int32} {x2 : Int32} {x3 : Int32} {x4 : Int64} {m : Nat} {P : Int32 → q_Hp → Prop} (hc : q_mI m 240 [.ref x0, .int (x1 + x3)] h P) (hm : m ≤ n) (w : ∀ (z : Int32) (h1 : q_Hp), P z h1 → q_wp (n + 1) 246 105 [some (.ref x0), some (.int x1), some (.int x2), some (.int x3), some (.long x4), none] [.int z] h1 Q) : q_wp (n + 1) 246 98 [some (.ref x0), some (.int x1), some (.int x2), some (.int x3), some (.long x4), none] [] h Q := by
  refine wp_loc rfl rfl ?_
  refine wp_loc rfl rfl ?_
  refine wp_loc rfl rfl ?_
  refine wp_stk rfl rfl rfl ?_
  exact wp_callI (av := [.ref x0, .int (x1 + x3)]) rfl rfl rfl (by decide) rfl rfl rfl hm hc w
set_option maxRecDepth 20000 in
theorem b246_105 {n : Nat} {h : q_Hp} {Q : Option Value → q_Hp → Prop} {x0 : Nat} {x1 : Int32} {x2 : Int32} {x3 : Int32} {x4 : Int64} {s0 : Int32} {m : Nat} {P : Int32 → q_Hp → Prop} (hc : q_mI m 241 [.int s0] h P) (hm : m ≤ n) (w : ∀ (z : Int32) (h1 : q_Hp), P z h1 → q_wp (n + 1) 246 108 [some (.ref x0), some (.int x1), some (.int x2), some (.int x3), some (.long x4), none] [.int z] h1 Q) : q_wp (n + 1) 246 105 [some (.ref x0), some (.int x1), some (.int x2), some (.int x3), some (.long x4), none] [.int s0] h Q := by
  exact wp_callI (av := [.int s0]) rfl rfl rfl (by decide) rfl rfl rfl hm hc w
set_option maxRecDepth 20000 in
theorem b246_108 {n : Nat} {h : q_Hp} {Q : Option Value → q_Hp → Prop} {x0 : Nat} {x1 : Int32} {x2 : Int32} {x3 : Int32} {x4 : Int64} {s0 : Int32} (wt : s0 = 0 → q_wp n 246 137 [some (.ref x0), some (.int x1), some (.int x2), some (.int x3), some (.long x4), none] [] h Q) (wf : ¬ s0 = 0 → q_wp n 246 111 [some (.ref x0), some (.int x1), some (.int x2), some (.int x3), some (.long x4), none] [] h Q) : q_wp n 246 108 [some (.ref x0), some (.int x1), some (.int x2), some (.int x3), some (.long x4), none] [.int s0] h Q := by
  exact wp_ifeq (tgt := 137) rfl (by decide) wt wf
set_option maxRecDepth 20000 in
theorem b246_111 {n : Nat} {h : q_Hp} {Q : Option Value → q_Hp → Prop} {x0 : Nat} {x1 : Int32} {x2 : Int32} {x3 : Int32} {x4 : Int64} (wt : 8 ≤ x3 → q_wp n 246 131 [some (.ref x0), some (.int x1), some (.int x2), some (.int x3), some (.long x4), none] [] h Q) (wf : ¬ 8 ≤ x3 → q_wp n 246 117 [some (.ref x0), some (.int x1), some (.int x2), some (.int x3), some (.long x4), none] [] h Q) : q_wp n 246 111 [some (.ref x0), some (.int x1), some (.int x2), some (.int x3), some (.long x4), none] [] h Q := by
  refine wp_loc rfl rfl ?_
  refine wp_bipush (v := 8) rfl (by decide) ?_
  exact wp_icge (tgt := 131) rfl (by decide) wt wf
set_option maxRecDepth 20000 in
theorem b246_117 {n : Nat} {h : q_Hp} {Q : Option Value → q_Hp → Prop} {x0 : Nat} {x1 : Int32} {x2 : Int32} {x3 : Int32} {x4 : Int64} {m : Nat} {P : Int32 → q_Hp → Prop} (hc : q_mI m 240 [.ref x0, .int (x1 + x3)] h P) (hm : m ≤ n) (w : ∀ (z : Int32) (h1 : q_Hp), P z h1 → q_wp (n + 1) 246 126 [some (.ref x0), some (.int x1), some (.int x2), some (.int x3), some (.long x4), none] [.int z, .long x4] h1 Q) : q_wp (n + 1) 246 117 [some (.ref x0), some (.int x1), some (.int x2), some (.int x3), some (.long x4), none] [] h Q := by
  refine wp_loc rfl rfl ?_
  refine wp_loc rfl rfl ?_
  refine wp_loc rfl rfl ?_
  refine wp_loc rfl rfl ?_
  refine wp_stk rfl rfl rfl ?_
  exact wp_callI (av := [.ref x0, .int (x1 + x3)]) rfl rfl rfl (by decide) rfl rfl rfl hm hc w
set_option maxRecDepth 20000 in
theorem b246_126 {n : Nat} {h : q_Hp} {Q : Option Value → q_Hp → Prop} {x0 : Nat} {x1 : Int32} {x2 : Int32} {x3 : Int32} {x4 : Int64} {s0 : Int32} {s1 : Int64} {m : Nat} {P : Int64 → q_Hp → Prop} (hc : q_mJ m 243 [.long s1, .int s0] h P) (hm : m ≤ n) (w : ∀ (z : Int64) (h1 : q_Hp), P z h1 → q_wp (n + 1) 246 129 [some (.ref x0), some (.int x1), some (.int x2), some (.int x3), some (.long x4), none] [.long z] h1 Q) : q_wp (n + 1) 246 126 [some (.ref x0), some (.int x1), some (.int x2), some (.int x3), some (.long x4), none] [.int s0, .long s1] h Q := by
  exact wp_callJ (av := [.long s1, .int s0]) rfl rfl rfl (by decide) rfl rfl rfl hm hc w
set_option maxRecDepth 20000 in
theorem b246_129 {n : Nat} {h : q_Hp} {Q : Option Value → q_Hp → Prop} {x0 : Nat} {x1 : Int32} {x2 : Int32} {x3 : Int32} {x4 : Int64} {s0 : Int64} (w : q_wp n 246 131 [some (.ref x0), some (.int x1), some (.int x2), some (.int x3), some (.long s0), none] [] h Q) : q_wp n 246 129 [some (.ref x0), some (.int x1), some (.int x2), some (.int x3), some (.long x4), none] [.long s0] h Q := by
  refine wp_loc rfl rfl ?_
  exact w
set_option maxRecDepth 20000 in
theorem b246_131 {n : Nat} {h : q_Hp} {Q : Option Value → q_Hp → Prop} {x0 : Nat} {x1 : Int32} {x2 : Int32} {x3 : Int32} {x4 : Int64} (w : q_wp n 246 85 [some (.ref x0), some (.int x1), some (.int x2), some (.int (x3 + 1)), some (.long x4), none] [] h Q) : q_wp n 246 131 [some (.ref x0), some (.int x1), some (.int x2), some (.int x3), some (.long x4), none] [] h Q := by
  refine wp_iinc (v := 1) rfl rfl (by decide) rfl ?_
  refine wp_goto (tgt := 85) rfl (by decide) ?_
  exact w
set_option maxRecDepth 20000 in
theorem b246_137 {n : Nat} {h : q_Hp} {Q : Option Value → q_Hp → Prop} {x0 : Nat} {x1 : Int32} {x2 : Int32} {x3 : Int32} {x4 : Int64} {m : Nat} {P : q_Hp → Prop} (hc : q_mV m 247 [.ref x0, .int x1, .int x3, .long x4] h P) (hm : m ≤ n) (w : ∀ h1 : q_Hp, P h1 → q_wp (n + 1) 246 145 [some (.ref x0), some (.int x1), some (.int x2), some (.int x3), some (.long x4), none] [] h1 Q) : q_wp (n + 1) 246 137 [some (.ref x0), some (.int x1), some (.int x2), some (.int x3), some (.long x4), none] [] h Q := by
  refine wp_loc rfl rfl ?_
  refine wp_loc rfl rfl ?_
  refine wp_loc rfl rfl ?_
  refine wp_loc rfl rfl ?_
  exact wp_callV (av := [.ref x0, .int x1, .int x3, .long x4]) rfl rfl rfl (by decide) rfl rfl rfl hm hc w
set_option maxRecDepth 20000 in
theorem b246_145 {n : Nat} {h : q_Hp} {Q : Option Value → q_Hp → Prop} {x0 : Nat} {x1 : Int32} {x2 : Int32} {x3 : Int32} {x4 : Int64} (w : q_wp n 246 249 [some (.ref x0), some (.int (x1 + x3)), some (.int x2), some (.int x3), some (.long x4), none] [] h Q) : q_wp n 246 145 [some (.ref x0), some (.int x1), some (.int x2), some (.int x3), some (.long x4), none] [] h Q := by
  refine wp_loc rfl rfl ?_
  refine wp_loc rfl rfl ?_
  refine wp_stk rfl rfl rfl ?_
  refine wp_loc rfl rfl ?_
  refine wp_goto (tgt := 249) rfl (by decide) ?_
  exact w
set_option maxRecDepth 20000 in
theorem b246_152 {n : Nat} {h : q_Hp} {Q : Option Value → q_Hp → Prop} {x0 : Nat} {x1 : Int32} {x2 : Int32} {l3 : Option Value} {l4 : Option Value} {m : Nat} {P : Int32 → q_Hp → Prop} (hc : q_mI m 241 [.int x2] h P) (hm : m ≤ n) (w : ∀ (z : Int32) (h1 : q_Hp), P z h1 → q_wp (n + 1) 246 156 [some (.ref x0), some (.int x1), some (.int x2), l3, l4, none] [.int z] h1 Q) : q_wp (n + 1) 246 152 [some (.ref x0), some (.int x1), some (.int x2), l3, l4, none] [] h Q := by
  refine wp_loc rfl rfl ?_
  exact wp_callI (av := [.int x2]) rfl rfl rfl (by decide) rfl rfl rfl hm hc w
set_option maxRecDepth 20000 in
theorem b246_156 {n : Nat} {h : q_Hp} {Q : Option Value → q_Hp → Prop} {x0 : Nat} {x1 : Int32} {x2 : Int32} {l3 : Option Value} {l4 : Option Value} {s0 : Int32} (wt : s0 = 0 → q_wp n 246 233 [some (.ref x0), some (.int x1), some (.int x2), l3, l4, none] [] h Q) (wf : ¬ s0 = 0 → q_wp n 246 159 [some (.ref x0), some (.int x1), some (.int x2), l3, l4, none] [] h Q) : q_wp n 246 156 [some (.ref x0), some (.int x1), some (.int x2), l3, l4, none] [.int s0] h Q := by
  exact wp_ifeq (tgt := 233) rfl (by decide) wt wf
set_option maxRecDepth 20000 in
theorem b246_159 {n : Nat} {h : q_Hp} {Q : Option Value → q_Hp → Prop} {x0 : Nat} {x1 : Int32} {x2 : Int32} {l3 : Option Value} {l4 : Option Value} (w : q_wp n 246 164 [some (.ref x0), some (.int x1), some (.int x2), some (.int 0), some (.int 0), none] [] h Q) : q_wp n 246 159 [some (.ref x0), some (.int x1), some (.int x2), l3, l4, none] [] h Q := by
  refine wp_iconst (v := 0) rfl (by decide) ?_
  refine wp_loc rfl rfl ?_
  refine wp_iconst (v := 0) rfl (by decide) ?_
  refine wp_loc rfl rfl ?_
  exact w
set_option maxRecDepth 20000 in
theorem b246_164 {n : Nat} {h : q_Hp} {Q : Option Value → q_Hp → Prop} {x0 : Nat} {x1 : Int32} {x2 : Int32} {x3 : Int32} {x4 : Int32} {m : Nat} {P : Int32 → q_Hp → Prop} (hc : q_mI m 240 [.ref x0, .int (x1 + x3)] h P) (hm : m ≤ n) (w : ∀ (z : Int32) (h1 : q_Hp), P z h1 → q_wp (n + 1) 246 171 [some (.ref x0), some (.int x1), some (.int x2), some (.int x3), some (.int x4), none] [.int z] h1 Q) : q_wp (n + 1) 246 164 [some (.ref x0), some (.int x1), some (.int x2), some (.int x3), some (.int x4), none] [] h Q := by
  refine wp_loc rfl rfl ?_
  refine wp_loc rfl rfl ?_
  refine wp_loc rfl rfl ?_
  refine wp_stk rfl rfl rfl ?_
  exact wp_callI (av := [.ref x0, .int (x1 + x3)]) rfl rfl rfl (by decide) rfl rfl rfl hm hc w
set_option maxRecDepth 20000 in
theorem b246_171 {n : Nat} {h : q_Hp} {Q : Option Value → q_Hp → Prop} {x0 : Nat} {x1 : Int32} {x2 : Int32} {x3 : Int32} {x4 : Int32} {s0 : Int32} {m : Nat} {P : Int32 → q_Hp → Prop} (hc : q_mI m 241 [.int s0] h P) (hm : m ≤ n) (w : ∀ (z : Int32) (h1 : q_Hp), P z h1 → q_wp (n + 1) 246 174 [some (.ref x0), some (.int x1), some (.int x2), some (.int x3), some (.int x4), none] [.int z] h1 Q) : q_wp (n + 1) 246 171 [some (.ref x0), some (.int x1), some (.int x2), some (.int x3), some (.int x4), none] [.int s0] h Q := by
  exact wp_callI (av := [.int s0]) rfl rfl rfl (by decide) rfl rfl rfl hm hc w
set_option maxRecDepth 20000 in
theorem b246_174 {n : Nat} {h : q_Hp} {Q : Option Value → q_Hp → Prop} {x0 : Nat} {x1 : Int32} {x2 : Int32} {x3 : Int32} {x4 : Int32} {s0 : Int32} (wt : s0 = 0 → q_wp n 246 207 [some (.ref x0), some (.int x1), some (.int x2), some (.int x3), some (.int x4), none] [] h Q) (wf : ¬ s0 = 0 → q_wp n 246 177 [some (.ref x0), some (.int x1), some (.int x2), some (.int x3), some (.int x4), none] [] h Q) : q_wp n 246 174 [some (.ref x0), some (.int x1), some (.int x2), some (.int x3), some (.int x4), none] [.int s0] h Q := by
  exact wp_ifeq (tgt := 207) rfl (by decide) wt wf
set_option maxRecDepth 20000 in
theorem b246_177 {n : Nat} {h : q_Hp} {Q : Option Value → q_Hp → Prop} {x0 : Nat} {x1 : Int32} {x2 : Int32} {x3 : Int32} {x4 : Int32} (wt : 9 ≤ x3 → q_wp n 246 201 [some (.ref x0), some (.int x1), some (.int x2), some (.int x3), some (.int x4), none] [] h Q) (wf : ¬ 9 ≤ x3 → q_wp n 246 183 [some (.ref x0), some (.int x1), some (.int x2), some (.int x3), some (.int x4), none] [] h Q) : q_wp n 246 177 [some (.ref x0), some (.int x1), some (.int x2), some (.int x3), some (.int x4), none] [] h Q := by
  refine wp_loc rfl rfl ?_
  refine wp_bipush (v := 9) rfl (by decide) ?_
  exact wp_icge (tgt := 201) rfl (by decide) wt wf
set_option maxRecDepth 20000 in
theorem b246_183 {n : Nat} {h : q_Hp} {Q : Option Value → q_Hp → Prop} {x0 : Nat} {x1 : Int32} {x2 : Int32} {x3 : Int32} {x4 : Int32} {m : Nat} {P : Int32 → q_Hp → Prop} (hc : q_mI m 240 [.ref x0, .int (x1 + x3)] h P) (hm : m ≤ n) (w : ∀ (z : Int32) (h1 : q_Hp), P z h1 → q_wp (n + 1) 246 195 [some (.ref x0), some (.int x1), some (.int x2), some (.int x3), some (.int x4), none] [.int z, .int (10 * x4)] h1 Q) : q_wp (n + 1) 246 183 [some (.ref x0), some (.int x1), some (.int x2), some (.int x3), some (.int x4), none] [] h Q := by
  refine wp_bipush (v := 10) rfl (by decide) ?_
  refine wp_loc rfl rfl ?_
  refine wp_stk rfl rfl rfl ?_
  refine wp_loc rfl rfl ?_
  refine wp_loc rfl rfl ?_
  refine wp_loc rfl rfl ?_
  refine wp_stk rfl rfl rfl ?_
  exact wp_callI (av := [.ref x0, .int (x1 + x3)]) rfl rfl rfl (by decide) rfl rfl rfl hm hc w
set_option maxRecDepth 20000 in
theorem b246_195 {n : Nat} {h : q_Hp} {Q : Option Value → q_Hp → Prop} {x0 : Nat} {x1 : Int32} {x2 : Int32} {x3 : Int32} {x4 : Int32} {s0 : Int32} {s1 : Int32} (w : q_wp n 246 201 [some (.ref x0), some (.int x1), some (.int x2), some (.int x3), some (.int ((s1 + s0) - 48)), none] [] h Q) : q_wp n 246 195 [some (.ref x0), some (.int x1), some (.int x2), some (.int x3), some (.int x4), none] [.int s0, .int s1] h Q := by
  refine wp_stk rfl rfl rfl ?_
  refine wp_bipush (v := 48) rfl (by decide) ?_
  refine wp_stk rfl rfl rfl ?_
  refine wp_loc rfl rfl ?_
  exact w
set_option maxRecDepth 20000 in
theorem b246_201 {n : Nat} {h : q_Hp} {Q : Option Value → q_Hp → Prop} {x0 : Nat} {x1 : Int32} {x2 : Int32} {x3 : Int32} {x4 : Int32} (w : q_wp n 246 164 [some (.ref x0), some (.int x1), some (.int x2), some (.int (x3 + 1)), some (.int x4), none] [] h Q) : q_wp n 246 201 [some (.ref x0), some (.int x1), some (.int x2), some (.int x3), some (.int x4), none] [] h Q := by
  refine wp_iinc (v := 1) rfl rfl (by decide) rfl ?_
  refine wp_goto (tgt := 164) rfl (by decide) ?_
  exact w
set_option maxRecDepth 20000 in
theorem b246_207 {n : Nat} {h : q_Hp} {Q : Option Value → q_Hp → Prop} {x0 : Nat} {x1 : Int32} {x2 : Int32} {x3 : Int32} {x4 : Int32} (wt : x3 ≤ 9 → q_wp n 246 218 [some (.ref x0), some (.int x1), some (.int x2), some (.int x3), some (.int x4), none] [.ref x0] h Q) (wf : ¬ x3 ≤ 9 → q_wp n 246 214 [some (.ref x0), some (.int x1), some (.int x2), some (.int x3), some (.int x4), none] [.ref x0] h Q) : q_wp n 246 207 [some (.ref x0), some (.int x1), some (.int x2), some (.int x3), some (.int x4), none] [] h Q := by
  refine wp_loc rfl rfl ?_
  refine wp_loc rfl rfl ?_
  refine wp_bipush (v := 9) rfl (by decide) ?_
  exact wp_icle (tgt := 218) rfl (by decide) wt wf
set_option maxRecDepth 20000 in
theorem b246_214 {n : Nat} {h : q_Hp} {Q : Option Value → q_Hp → Prop} {x0 : Nat} {x1 : Int32} {x2 : Int32} {x3 : Int32} {x4 : Int32} {s0 : Nat} (w : q_wp n 246 219 [some (.ref x0), some (.int x1), some (.int x2), some (.int x3), some (.int x4), none] [.int 3, .ref s0] h Q) : q_wp n 246 214 [some (.ref x0), some (.int x1), some (.int x2), some (.int x3), some (.int x4), none] [.ref s0] h Q := by
  refine wp_iconst (v := 3) rfl (by decide) ?_
  refine wp_goto (tgt := 219) rfl (by decide) ?_
  exact w
set_option maxRecDepth 20000 in
theorem b246_218 {n : Nat} {h : q_Hp} {Q : Option Value → q_Hp → Prop} {x0 : Nat} {x1 : Int32} {x2 : Int32} {x3 : Int32} {x4 : Int32} {s0 : Nat} (w : q_wp n 246 219 [some (.ref x0), some (.int x1), some (.int x2), some (.int x3), some (.int x4), none] [.int 2, .ref s0] h Q) : q_wp n 246 218 [some (.ref x0), some (.int x1), some (.int x2), some (.int x3), some (.int x4), none] [.ref s0] h Q := by
  refine wp_iconst (v := 2) rfl (by decide) ?_
  exact w
set_option maxRecDepth 20000 in
theorem b246_219 {n : Nat} {h : q_Hp} {Q : Option Value → q_Hp → Prop} {x0 : Nat} {x1 : Int32} {x2 : Int32} {x3 : Int32} {x4 : Int32} {s0 : Int32} {s1 : Nat} {m : Nat} {P : q_Hp → Prop} (hc : q_mV m 245 [.ref s1, .int s0, .int x1, .int x4, .long 0] h P) (hm : m ≤ n) (w : ∀ h1 : q_Hp, P h1 → q_wp (n + 1) 246 226 [some (.ref x0), some (.int x1), some (.int x2), some (.int x3), some (.int x4), none] [] h1 Q) : q_wp (n + 1) 246 219 [some (.ref x0), some (.int x1), some (.int x2), some (.int x3), some (.int x4), none] [.int s0, .ref s1] h Q := by
  refine wp_loc rfl rfl ?_
  refine wp_loc rfl rfl ?_
  refine wp_lconst (v := 0) rfl (by decide) ?_
  exact wp_callV (av := [.ref s1, .int s0, .int x1, .int x4, .long 0]) rfl rfl rfl (by decide) rfl rfl rfl hm hc w
set_option maxRecDepth 20000 in
theorem b246_226 {n : Nat} {h : q_Hp} {Q : Option Value → q_Hp → Prop} {x0 : Nat} {x1 : Int32} {x2 : Int32} {x3 : Int32} {x4 : Int32} (w : q_wp n 246 249 [some (.ref x0), some (.int (x1 + x3)), some (.int x2), some (.int x3), some (.int x4), none] [] h Q) : q_wp n 246 226 [some (.ref x0), some (.int x1), some (.int x2), some (.int x3), some (.int x4), none] [] h Q := by
  refine wp_loc rfl rfl ?_
  refine wp_loc rfl rfl ?_
  refine wp_stk rfl rfl rfl ?_
  refine wp_loc rfl rfl ?_
  refine wp_goto (tgt := 249) rfl (by decide) ?_
  exact w
set_option maxRecDepth 20000 in
theorem b246_233 {n : Nat} {h : q_Hp} {Q : Option Value → q_Hp → Prop} {x0 : Nat} {x1 : Int32} {x2 : Int32} {l3 : Option Value} {l4 : Option Value} {m : Nat} {P : Int32 → q_Hp → Prop} (hc : q_mI m 240 [.ref x0, .int (x1 + 1)] h P) (hm : m ≤ n) (w : ∀ (z : Int32) (h1 : q_Hp), P z h1 → q_wp (n + 1) 246 244 [some (.ref x0), some (.int x1), some (.int x2), l3, l4, none] [.int z, .int x2, .int x1, .ref x0, .int x1] h1 Q) : q_wp (n + 1) 246 233 [some (.ref x0), some (.int x1), some (.int x2), l3, l4, none] [] h Q := by
  refine wp_loc rfl rfl ?_
  refine wp_loc rfl rfl ?_
  refine wp_loc rfl rfl ?_
  refine wp_loc rfl rfl ?_
  refine wp_loc rfl rfl ?_
  refine wp_loc rfl rfl ?_
  refine wp_iconst (v := 1) rfl (by decide) ?_
  refine wp_stk rfl rfl rfl ?_
  exact wp_callI (av := [.ref x0, .int (x1 + 1)]) rfl rfl rfl (by decide) rfl rfl rfl hm hc w
set_option maxRecDepth 20000 in
theorem b246_244 {n : Nat} {h : q_Hp} {Q : Option Value → q_Hp → Prop} {x0 : Nat} {x1 : Int32} {x2 : Int32} {l3 : Option Value} {l4 : Option Value} {s0 : Int32} {s1 : Int32} {s2 : Int32} {s3 : Nat} {s4 : Int32} {m : Nat} {P : Int32 → q_Hp → Prop} (hc : q_mI m 248 [.ref s3, .int s2, .int s1, .int s0] h P) (hm : m ≤ n) (w : ∀ (z : Int32) (h1 : q_Hp), P z h1 → q_wp (n + 1) 246 247 [some (.ref x0), some (.int x1), some (.int x2), l3, l4, none] [.int z, .int s4] h1 Q) : q_wp (n + 1) 246 244 [some (.ref x0), some (.int x1), some (.int x2), l3, l4, none] [.int s0, .int s1, .int s2, .ref s3, .int s4] h Q := by
  exact wp_callI (av := [.ref s3, .int s2, .int s1, .int s0]) rfl rfl rfl (by decide) rfl rfl rfl hm hc w
set_option maxRecDepth 20000 in
theorem b246_247 {n : Nat} {h : q_Hp} {Q : Option Value → q_Hp → Prop} {x0 : Nat} {x1 : Int32} {x2 : Int32} {l3 : Option Value} {l4 : Option Value} {s0 : Int32} {s1 : Int32} (w : q_wp n 246 249 [some (.ref x0), some (.int (s1 + s0)), some (.int x2), l3, l4, none] [] h Q) : q_wp n 246 247 [some (.ref x0), some (.int x1), some (.int x2), l3, l4, none] [.int s0, .int s1] h Q := by
  refine wp_stk rfl rfl rfl ?_
  refine wp_loc rfl rfl ?_
  exact w
set_option maxRecDepth 20000 in
theorem b246_249 {n : Nat} {h : q_Hp} {Q : Option Value → q_Hp → Prop} {x0 : Nat} {x1 : Int32} {x2 : Int32} {l3 : Option Value} {l4 : Option Value} (w : q_wp n 246 7 [some (.ref x0), some (.int x1), some (.int x2), l3, l4, none] [] h Q) : q_wp n 246 249 [some (.ref x0), some (.int x1), some (.int x2), l3, l4, none] [] h Q := by
  refine wp_goto (tgt := 7) rfl (by decide) ?_
  exact w
set_option maxRecDepth 20000 in
theorem b246_252 {n : Nat} {h : q_Hp} {Q : Option Value → q_Hp → Prop} {x0 : Nat} {x1 : Int32} {l2 : Option Value} {l3 : Option Value} {l4 : Option Value} (q : Q none h) : q_wp n 246 252 [some (.ref x0), some (.int x1), l2, l3, l4, none] [] h Q := by
  exact wp_ret rfl rfl q
theorem b247_0 {n : Nat} {h : q_Hp} {Q : Option Value → q_Hp → Prop} {x0 : Nat} {x1 : Int32} {x2 : Int32} {x3 : Int64} (wt : x2 ≤ 8 → q_wp n 247 10 [some (.ref x0), some (.int x1), some (.int x2), some (.long x3), none, none, none] [] h Q) (wf : ¬ x2 ≤ 8 → q_wp n 247 6 [some (.ref x0), some (.int x1), some (.int x2), some (.long x3), none, none, none] [] h Q) : q_wp n 247 0 [some (.ref x0), some (.int x1), some (.int x2), some (.long x3), none, none, none] [] h Q := by
  refine wp_loc rfl rfl ?_
  refine wp_bipush (v := 8) rfl (by decide) ?_
  exact wp_icle (tgt := 10) rfl (by decide) wt wf
theorem b247_6 {n : Nat} {h : q_Hp} {Q : Option Value → q_Hp → Prop} {x0 : Nat} {x1 : Int32} {x2 : Int32} {x3 : Int64} (w : q_wp n 247 11 [some (.ref x0), some (.int x1), some (.int x2), some (.long x3), none, none, none] [.int 3] h Q) : q_wp n 247 6 [some (.ref x0), some (.int x1), some (.int x2), some (.long x3), none, none, none] [] h Q := by
  refine wp_iconst (v := 3) rfl (by decide) ?_
  refine wp_goto (tgt := 11) rfl (by decide) ?_
  exact w
theorem b247_10 {n : Nat} {h : q_Hp} {Q : Option Value → q_Hp → Prop} {x0 : Nat} {x1 : Int32} {x2 : Int32} {x3 : Int64} (w : q_wp n 247 11 [some (.ref x0), some (.int x1), some (.int x2), some (.long x3), none, none, none] [.int 1] h Q) : q_wp n 247 10 [some (.ref x0), some (.int x1), some (.int x2), some (.long x3), none, none, none] [] h Q := by
  refine wp_iconst (v := 1) rfl (by decide) ?_
  exact w
theorem b247_11 {n : Nat} {h : q_Hp} {Q : Option Value → q_Hp → Prop} {x0 : Nat} {x1 : Int32} {x2 : Int32} {x3 : Int64} {s0 : Int32} (wt : 5 < x2 → q_wp n 247 53 [some (.ref x0), some (.int x1), some (.int x2), some (.long x3), none, some (.int s0), none] [] h Q) (wf : ¬ 5 < x2 → q_wp n 247 18 [some (.ref x0), some (.int x1), some (.int x2), some (.long x3), none, some (.int s0), none] [] h Q) : q_wp n 247 11 [some (.ref x0), some (.int x1), some (.int x2), some (.long x3), none, none, none] [.int s0] h Q := by
  refine wp_loc rfl rfl ?_
  refine wp_loc rfl rfl ?_
  refine wp_iconst (v := 5) rfl (by decide) ?_
  exact wp_icgt (tgt := 53) rfl (by decide) wt wf
theorem b247_18 {n : Nat} {h : q_Hp} {Q : Option Value → q_Hp → Prop} {x0 : Nat} {x1 : Int32} {x2 : Int32} {x3 : Int64} {x5 : Int32} (w : q_wp n 247 21 [some (.ref x0), some (.int x1), some (.int x2), some (.long x3), none, some (.int x5), some (.int 0)] [] h Q) : q_wp n 247 18 [some (.ref x0), some (.int x1), some (.int x2), some (.long x3), none, some (.int x5), none] [] h Q := by
  refine wp_iconst (v := 0) rfl (by decide) ?_
  refine wp_loc rfl rfl ?_
  exact w
theorem b247_21 {n : Nat} {h : q_Hp} {Q : Option Value → q_Hp → Prop} {x0 : Nat} {x1 : Int32} {x2 : Int32} {x3 : Int64} {x5 : Int32} {x6 : Int32} (wt : 25 ≤ x6 → q_wp n 247 53 [some (.ref x0), some (.int x1), some (.int x2), some (.long x3), none, some (.int x5), some (.int x6)] [] h Q) (wf : ¬ 25 ≤ x6 → q_wp n 247 28 [some (.ref x0), some (.int x1), some (.int x2), some (.long x3), none, some (.int x5), some (.int x6)] [] h Q) : q_wp n 247 21 [some (.ref x0), some (.int x1), some (.int x2), some (.long x3), none, some (.int x5), some (.int x6)] [] h Q := by
  refine wp_loc rfl rfl ?_
  refine wp_bipush (v := 25) rfl (by decide) ?_
  exact wp_icge (tgt := 53) rfl (by decide) wt wf
theorem b247_28 {n : Nat} {h : q_Hp} {Q : Option Value → q_Hp → Prop} {x0 : Nat} {x1 : Int32} {x2 : Int32} {x3 : Int64} {x5 : Int32} {x6 : Int32} {v0 : Nat} (k0 : q_ok h x0 12) (e0 : qR h x0 9 = v0) (k1 : q_ok h v0 21) (i0 : q_in x6 (qK h v0).2) (wt : ¬ (lg_cmp (qL h v0 x6.toNatClampNeg) x3) = 0 → q_wp n 247 47 [some (.ref x0), some (.int x1), some (.int x2), some (.long x3), none, some (.int x5), some (.int x6)] [] h Q) (wf : (lg_cmp (qL h v0 x6.toNatClampNeg) x3) = 0 → q_wp n 247 40 [some (.ref x0), some (.int x1), some (.int x2), some (.long x3), none, some (.int x5), some (.int x6)] [] h Q) : q_wp n 247 28 [some (.ref x0), some (.int x1), some (.int x2), some (.long x3), none, some (.int x5), some (.int x6)] [] h Q := by
  refine wp_loc rfl rfl ?_
  refine wp_getR rfl rfl rfl rfl k0 e0 ?_
  refine wp_loc rfl rfl ?_
  refine wp_lald rfl k1 i0 ?_
  refine wp_loc rfl rfl ?_
  refine wp_stk rfl rfl rfl ?_
  exact wp_ifne (tgt := 47) rfl (by decide) wt wf
theorem b247_40 {n : Nat} {h : q_Hp} {Q : Option Value → q_Hp → Prop} {x0 : Nat} {x1 : Int32} {x2 : Int32} {x3 : Int64} {x5 : Int32} {x6 : Int32} (w : q_wp n 247 47 [some (.ref x0), some (.int x1), some (.int x2), some (.long x3), none, some (.int (20 + x6)), some (.int x6)] [] h Q) : q_wp n 247 40 [some (.ref x0), some (.int x1), some (.int x2), some (.long x3), none, some (.int x5), some (.int x6)] [] h Q := by
  refine wp_bipush (v := 20) rfl (by decide) ?_
  refine wp_loc rfl rfl ?_
  refine wp_stk rfl rfl rfl ?_
  refine wp_loc rfl rfl ?_
  exact w
theorem b247_47 {n : Nat} {h : q_Hp} {Q : Option Value → q_Hp → Prop} {x0 : Nat} {x1 : Int32} {x2 : Int32} {x3 : Int64} {x5 : Int32} {x6 : Int32} (w : q_wp n 247 21 [some (.ref x0), some (.int x1), some (.int x2), some (.long x3), none, some (.int x5), some (.int (x6 + 1))] [] h Q) : q_wp n 247 47 [some (.ref x0), some (.int x1), some (.int x2), some (.long x3), none, some (.int x5), some (.int x6)] [] h Q := by
  refine wp_iinc (v := 1) rfl rfl (by decide) rfl ?_
  refine wp_goto (tgt := 21) rfl (by decide) ?_
  exact w
theorem b247_53 {n : Nat} {h : q_Hp} {Q : Option Value → q_Hp → Prop} {x0 : Nat} {x1 : Int32} {x2 : Int32} {x3 : Int64} {x5 : Int32} {l6 : Option Value} {m : Nat} {P : q_Hp → Prop} (hc : q_mV m 245 [.ref x0, .int x5, .int x1, .int 0, .long x3] h P) (hm : m ≤ n) (w : ∀ h1 : q_Hp, P h1 → q_wp (n + 1) 247 62 [some (.ref x0), some (.int x1), some (.int x2), some (.long x3), none, some (.int x5), l6] [] h1 Q) : q_wp (n + 1) 247 53 [some (.ref x0), some (.int x1), some (.int x2), some (.long x3), none, some (.int x5), l6] [] h Q := by
  refine wp_loc rfl rfl ?_
  refine wp_loc rfl rfl ?_
  refine wp_loc rfl rfl ?_
  refine wp_iconst (v := 0) rfl (by decide) ?_
  refine wp_loc rfl rfl ?_
  exact wp_callV (av := [.ref x0, .int x5, .int x1, .int 0, .long x3]) rfl rfl rfl (by decide) rfl rfl rfl hm hc w
theorem b247_62 {n : Nat} {h : q_Hp} {Q : Option Value → q_Hp → Prop} {x0 : Nat} {x1 : Int32} {x2 : Int32} {x3 : Int64} {x5 : Int32} {l6 : Option Value} (q : Q none h) : q_wp n 247 62 [some (.ref x0), some (.int x1), some (.int x2), some (.long x3), none, some (.int x5), l6] [] h Q := by
  exact wp_ret rfl rfl q
set_option maxRecDepth 20000 in
theorem b248_0 {n : Nat} {h : q_Hp} {Q : Option Value → q_Hp → Prop} {x0 : Nat} {x1 : Int32} {x2 : Int32} {x3 : Int32} (wt : ¬ x3 = 61 → q_wp n 248 24 [some (.ref x0), some (.int x1), some (.int x2), some (.int x3), none, none] [] h Q) (wf : x3 = 61 → q_wp n 248 6 [some (.ref x0), some (.int x1), some (.int x2), some (.int x3), none, none] [] h Q) : q_wp n 248 0 [some (.ref x0), some (.int x1), some (.int x2), some (.int x3), none, none] [] h Q := by
  refine wp_loc rfl rfl ?_
  refine wp_bipush (v := 61) rfl (by decide) ?_
  exact wp_icne (tgt := 24) rfl (by decide) wt wf
set_option maxRecDepth 20000 in
theorem b248_6 {n : Nat} {h : q_Hp} {Q : Option Value → q_Hp → Prop} {x0 : Nat} {x1 : Int32} {x2 : Int32} {x3 : Int32} (wt : x2 = 61 → q_wp n 248 36 [some (.ref x0), some (.int x1), some (.int x2), some (.int x3), none, none] [] h Q) (wf : ¬ x2 = 61 → q_wp n 248 12 [some (.ref x0), some (.int x1), some (.int x2), some (.int x3), none, none] [] h Q) : q_wp n 248 6 [some (.ref x0), some (.int x1), some (.int x2), some (.int x3), none, none] [] h Q := by
  refine wp_loc rfl rfl ?_
  refine wp_bipush (v := 61) rfl (by decide) ?_
  exact wp_iceq (tgt := 36) rfl (by decide) wt wf
set_option maxRecDepth 20000 in
theorem b248_12 {n : Nat} {h : q_Hp} {Q : Option Value → q_Hp → Prop} {x0 : Nat} {x1 : Int32} {x2 : Int32} {x3 : Int32} (wt : x2 = 33 → q_wp n 248 36 [some (.ref x0), some (.int x1), some (.int x2), some (.int x3), none, none] [] h Q) (wf : ¬ x2 = 33 → q_wp n 248 18 [some (.ref x0), some (.int x1), some (.int x2), some (.int x3), none, none] [] h Q) : q_wp n 248 12 [some (.ref x0), some (.int x1), some (.int x2), some (.int x3), none, none] [] h Q := by
  refine wp_loc rfl rfl ?_
  refine wp_bipush (v := 33) rfl (by decide) ?_
  exact wp_iceq (tgt := 36) rfl (by decide) wt wf
set_option maxRecDepth 20000 in
theorem b248_18 {n : Nat} {h : q_Hp} {Q : Option Value → q_Hp → Prop} {x0 : Nat} {x1 : Int32} {x2 : Int32} {x3 : Int32} (wt : x2 = 60 → q_wp n 248 36 [some (.ref x0), some (.int x1), some (.int x2), some (.int x3), none, none] [] h Q) (wf : ¬ x2 = 60 → q_wp n 248 24 [some (.ref x0), some (.int x1), some (.int x2), some (.int x3), none, none] [] h Q) : q_wp n 248 18 [some (.ref x0), some (.int x1), some (.int x2), some (.int x3), none, none] [] h Q := by
  refine wp_loc rfl rfl ?_
  refine wp_bipush (v := 60) rfl (by decide) ?_
  exact wp_iceq (tgt := 36) rfl (by decide) wt wf
set_option maxRecDepth 20000 in
theorem b248_24 {n : Nat} {h : q_Hp} {Q : Option Value → q_Hp → Prop} {x0 : Nat} {x1 : Int32} {x2 : Int32} {x3 : Int32} (wt : ¬ x2 = 45 → q_wp n 248 40 [some (.ref x0), some (.int x1), some (.int x2), some (.int x3), none, none] [] h Q) (wf : x2 = 45 → q_wp n 248 30 [some (.ref x0), some (.int x1), some (.int x2), some (.int x3), none, none] [] h Q) : q_wp n 248 24 [some (.ref x0), some (.int x1), some (.int x2), some (.int x3), none, none] [] h Q := by
  refine wp_loc rfl rfl ?_
  refine wp_bipush (v := 45) rfl (by decide) ?_
  exact wp_icne (tgt := 40) rfl (by decide) wt wf
set_option maxRecDepth 20000 in
theorem b248_30 {n : Nat} {h : q_Hp} {Q : Option Value → q_Hp → Prop} {x0 : Nat} {x1 : Int32} {x2 : Int32} {x3 : Int32} (wt : ¬ x3 = 62 → q_wp n 248 40 [some (.ref x0), some (.int x1), some (.int x2), some (.int x3), none, none] [] h Q) (wf : x3 = 62 → q_wp n 248 36 [some (.ref x0), some (.int x1), some (.int x2), some (.int x3), none, none] [] h Q) : q_wp n 248 30 [some (.ref x0), some (.int x1), some (.int x2), some (.int x3), none, none] [] h Q := by
  refine wp_loc rfl rfl ?_
  refine wp_bipush (v := 62) rfl (by decide) ?_
  exact wp_icne (tgt := 40) rfl (by decide) wt wf
set_option maxRecDepth 20000 in
theorem b248_36 {n : Nat} {h : q_Hp} {Q : Option Value → q_Hp → Prop} {x0 : Nat} {x1 : Int32} {x2 : Int32} {x3 : Int32} (w : q_wp n 248 41 [some (.ref x0), some (.int x1), some (.int x2), some (.int x3), none, none] [.int 1] h Q) : q_wp n 248 36 [some (.ref x0), some (.int x1), some (.int x2), some (.int x3), none, none] [] h Q := by
  refine wp_iconst (v := 1) rfl (by decide) ?_
  refine wp_goto (tgt := 41) rfl (by decide) ?_
  exact w
set_option maxRecDepth 20000 in
theorem b248_40 {n : Nat} {h : q_Hp} {Q : Option Value → q_Hp → Prop} {x0 : Nat} {x1 : Int32} {x2 : Int32} {x3 : Int32} (w : q_wp n 248 41 [some (.ref x0), some (.int x1), some (.int x2), some (.int x3), none, none] [.int 0] h Q) : q_wp n 248 40 [some (.ref x0), some (.int x1), some (.int x2), some (.int x3), none, none] [] h Q := by
  refine wp_iconst (v := 0) rfl (by decide) ?_
  exact w
set_option maxRecDepth 20000 in
theorem b248_41 {n : Nat} {h : q_Hp} {Q : Option Value → q_Hp → Prop} {x0 : Nat} {x1 : Int32} {x2 : Int32} {x3 : Int32} {s0 : Int32} (wt : s0 = 0 → q_wp n 248 91 [some (.ref x0), some (.int x1), some (.int x2), some (.int x3), some (.int s0), some (.int 3)] [] h Q) (wf : ¬ s0 = 0 → q_wp n 248 51 [some (.ref x0), some (.int x1), some (.int x2), some (.int x3), some (.int s0), some (.int 3)] [] h Q) : q_wp n 248 41 [some (.ref x0), some (.int x1), some (.int x2), some (.int x3), none, none] [.int s0] h Q := by
  refine wp_loc rfl rfl ?_
  refine wp_iconst (v := 3) rfl (by decide) ?_
  refine wp_loc rfl rfl ?_
  refine wp_loc rfl rfl ?_
  exact wp_ifeq (tgt := 91) rfl (by decide) wt wf
set_option maxRecDepth 20000 in
theorem b248_51 {n : Nat} {h : q_Hp} {Q : Option Value → q_Hp → Prop} {x0 : Nat} {x1 : Int32} {x2 : Int32} {x3 : Int32} {x4 : Int32} {x5 : Int32} (wt : ¬ x2 = 61 → q_wp n 248 62 [some (.ref x0), some (.int x1), some (.int x2), some (.int x3), some (.int x4), some (.int x5)] [] h Q) (wf : x2 = 61 → q_wp n 248 57 [some (.ref x0), some (.int x1), some (.int x2), some (.int x3), some (.int x4), some (.int x5)] [] h Q) : q_wp n 248 51 [some (.ref x0), some (.int x1), some (.int x2), some (.int x3), some (.int x4), some (.int x5)] [] h Q := by
  refine wp_loc rfl rfl ?_
  refine wp_bipush (v := 61) rfl (by decide) ?_
  exact wp_icne (tgt := 62) rfl (by decide) wt wf
set_option maxRecDepth 20000 in
theorem b248_57 {n : Nat} {h : q_Hp} {Q : Option Value → q_Hp → Prop} {x0 : Nat} {x1 : Int32} {x2 : Int32} {x3 : Int32} {x4 : Int32} {x5 : Int32} (w : q_wp n 248 86 [some (.ref x0), some (.int x1), some (.int x2), some (.int x3), some (.int x4), some (.int x5)] [.int 9] h Q) : q_wp n 248 57 [some (.ref x0), some (.int x1), some (.int x2), some (.int x3), some (.int x4), some (.int x5)] [] h Q := by
  refine wp_bipush (v := 9) rfl (by decide) ?_
  refine wp_goto (tgt := 86) rfl (by decide) ?_
  exact w
set_option maxRecDepth 20000 in
theorem b248_62 {n : Nat} {h : q_Hp} {Q : Option Value → q_Hp → Prop} {x0 : Nat} {x1 : Int32} {x2 : Int32} {x3 : Int32} {x4 : Int32} {x5 : Int32} (wt : ¬ x2 = 33 → q_wp n 248 73 [some (.ref x0), some (.int x1), some (.int x2), some (.int x3), some (.int x4), some (.int x5)] [] h Q) (wf : x2 = 33 → q_wp n 248 68 [some (.ref x0), some (.int x1), some (.int x2), some (.int x3), some (.int x4), some (.int x5)] [] h Q) : q_wp n 248 62 [some (.ref x0), some (.int x1), some (.int x2), some (.int x3), some (.int x4), some (.int x5)] [] h Q := by
  refine wp_loc rfl rfl ?_
  refine wp_bipush (v := 33) rfl (by decide) ?_
  exact wp_icne (tgt := 73) rfl (by decide) wt wf
set_option maxRecDepth 20000 in
theorem b248_68 {n : Nat} {h : q_Hp} {Q : Option Value → q_Hp → Prop} {x0 : Nat} {x1 : Int32} {x2 : Int32} {x3 : Int32} {x4 : Int32} {x5 : Int32} (w : q_wp n 248 86 [some (.ref x0), some (.int x1), some (.int x2), some (.int x3), some (.int x4), some (.int x5)] [.int 10] h Q) : q_wp n 248 68 [some (.ref x0), some (.int x1), some (.int x2), some (.int x3), some (.int x4), some (.int x5)] [] h Q := by
  refine wp_bipush (v := 10) rfl (by decide) ?_
  refine wp_goto (tgt := 86) rfl (by decide) ?_
  exact w
set_option maxRecDepth 20000 in
theorem b248_73 {n : Nat} {h : q_Hp} {Q : Option Value → q_Hp → Prop} {x0 : Nat} {x1 : Int32} {x2 : Int32} {x3 : Int32} {x4 : Int32} {x5 : Int32} (wt : ¬ x2 = 60 → q_wp n 248 84 [some (.ref x0), some (.int x1), some (.int x2), some (.int x3), some (.int x4), some (.int x5)] [] h Q) (wf : x2 = 60 → q_wp n 248 79 [some (.ref x0), some (.int x1), some (.int x2), some (.int x3), some (.int x4), some (.int x5)] [] h Q) : q_wp n 248 73 [some (.ref x0), some (.int x1), some (.int x2), some (.int x3), some (.int x4), some (.int x5)] [] h Q := by
  refine wp_loc rfl rfl ?_
  refine wp_bipush (v := 60) rfl (by decide) ?_
  exact wp_icne (tgt := 84) rfl (by decide) wt wf
set_option maxRecDepth 20000 in
theorem b248_79 {n : Nat} {h : q_Hp} {Q : Option Value → q_Hp → Prop} {x0 : Nat} {x1 : Int32} {x2 : Int32} {x3 : Int32} {x4 : Int32} {x5 : Int32} (w : q_wp n 248 86 [some (.ref x0), some (.int x1), some (.int x2), some (.int x3), some (.int x4), some (.int x5)] [.int 12] h Q) : q_wp n 248 79 [some (.ref x0), some (.int x1), some (.int x2), some (.int x3), some (.int x4), some (.int x5)] [] h Q := by
  refine wp_bipush (v := 12) rfl (by decide) ?_
  refine wp_goto (tgt := 86) rfl (by decide) ?_
  exact w
set_option maxRecDepth 20000 in
theorem b248_84 {n : Nat} {h : q_Hp} {Q : Option Value → q_Hp → Prop} {x0 : Nat} {x1 : Int32} {x2 : Int32} {x3 : Int32} {x4 : Int32} {x5 : Int32} (w : q_wp n 248 86 [some (.ref x0), some (.int x1), some (.int x2), some (.int x3), some (.int x4), some (.int x5)] [.int 18] h Q) : q_wp n 248 84 [some (.ref x0), some (.int x1), some (.int x2), some (.int x3), some (.int x4), some (.int x5)] [] h Q := by
  refine wp_bipush (v := 18) rfl (by decide) ?_
  exact w
set_option maxRecDepth 20000 in
theorem b248_86 {n : Nat} {h : q_Hp} {Q : Option Value → q_Hp → Prop} {x0 : Nat} {x1 : Int32} {x2 : Int32} {x3 : Int32} {x4 : Int32} {x5 : Int32} {s0 : Int32} (w : q_wp n 248 229 [some (.ref x0), some (.int x1), some (.int x2), some (.int x3), some (.int x4), some (.int s0)] [] h Q) : q_wp n 248 86 [some (.ref x0), some (.int x1), some (.int x2), some (.int x3), some (.int x4), some (.int x5)] [.int s0] h Q := by
  refine wp_loc rfl rfl ?_
  refine wp_goto (tgt := 229) rfl (by decide) ?_
  exact w
set_option maxRecDepth 20000 in
theorem b248_91 {n : Nat} {h : q_Hp} {Q : Option Value → q_Hp → Prop} {x0 : Nat} {x1 : Int32} {x2 : Int32} {x3 : Int32} {x4 : Int32} {x5 : Int32} (wt : ¬ x2 = 59 → q_wp n 248 103 [some (.ref x0), some (.int x1), some (.int x2), some (.int x3), some (.int x4), some (.int x5)] [] h Q) (wf : x2 = 59 → q_wp n 248 97 [some (.ref x0), some (.int x1), some (.int x2), some (.int x3), some (.int x4), some (.int x5)] [] h Q) : q_wp n 248 91 [some (.ref x0), some (.int x1), some (.int x2), some (.int x3), some (.int x4), some (.int x5)] [] h Q := by
  refine wp_loc rfl rfl ?_
  refine wp_bipush (v := 59) rfl (by decide) ?_
  exact wp_icne (tgt := 103) rfl (by decide) wt wf
set_option maxRecDepth 20000 in
theorem b248_97 {n : Nat} {h : q_Hp} {Q : Option Value → q_Hp → Prop} {x0 : Nat} {x1 : Int32} {x2 : Int32} {x3 : Int32} {x4 : Int32} {x5 : Int32} (w : q_wp n 248 229 [some (.ref x0), some (.int x1), some (.int x2), some (.int x3), some (.int x4), some (.int 4)] [] h Q) : q_wp n 248 97 [some (.ref x0), some (.int x1), some (.int x2), some (.int x3), some (.int x4), some (.int x5)] [] h Q := by
  refine wp_iconst (v := 4) rfl (by decide) ?_
  refine wp_loc rfl rfl ?_
  refine wp_goto (tgt := 229) rfl (by decide) ?_
  exact w
set_option maxRecDepth 20000 in
theorem b248_103 {n : Nat} {h : q_Hp} {Q : Option Value → q_Hp → Prop} {x0 : Nat} {x1 : Int32} {x2 : Int32} {x3 : Int32} {x4 : Int32} {x5 : Int32} (wt : ¬ x2 = 58 → q_wp n 248 115 [some (.ref x0), some (.int x1), some (.int x2), some (.int x3), some (.int x4), some (.int x5)] [] h Q) (wf : x2 = 58 → q_wp n 248 109 [some (.ref x0), some (.int x1), some (.int x2), some (.int x3), some (.int x4), some (.int x5)] [] h Q) : q_wp n 248 103 [some (.ref x0), some (.int x1), some (.int x2), some (.int x3), some (.int x4), some (.int x5)] [] h Q := by
  refine wp_loc rfl rfl ?_
  refine wp_bipush (v := 58) rfl (by decide) ?_
  exact wp_icne (tgt := 115) rfl (by decide) wt wf
set_option maxRecDepth 20000 in
theorem b248_109 {n : Nat} {h : q_Hp} {Q : Option Value → q_Hp → Prop} {x0 : Nat} {x1 : Int32} {x2 : Int32} {x3 : Int32} {x4 : Int32} {x5 : Int32} (w : q_wp n 248 229 [some (.ref x0), some (.int x1), some (.int x2), some (.int x3), some (.int x4), some (.int 5)] [] h Q) : q_wp n 248 109 [some (.ref x0), some (.int x1), some (.int x2), some (.int x3), some (.int x4), some (.int x5)] [] h Q := by
  refine wp_iconst (v := 5) rfl (by decide) ?_
  refine wp_loc rfl rfl ?_
  refine wp_goto (tgt := 229) rfl (by decide) ?_
  exact w
set_option maxRecDepth 20000 in
theorem b248_115 {n : Nat} {h : q_Hp} {Q : Option Value → q_Hp → Prop} {x0 : Nat} {x1 : Int32} {x2 : Int32} {x3 : Int32} {x4 : Int32} {x5 : Int32} (wt : ¬ x2 = 46 → q_wp n 248 128 [some (.ref x0), some (.int x1), some (.int x2), some (.int x3), some (.int x4), some (.int x5)] [] h Q) (wf : x2 = 46 → q_wp n 248 121 [some (.ref x0), some (.int x1), some (.int x2), some (.int x3), some (.int x4), some (.int x5)] [] h Q) : q_wp n 248 115 [some (.ref x0), some (.int x1), some (.int x2), some (.int x3), some (.int x4), some (.int x5)] [] h Q := by
  refine wp_loc rfl rfl ?_
  refine wp_bipush (v := 46) rfl (by decide) ?_
  exact wp_icne (tgt := 128) rfl (by decide) wt wf
set_option maxRecDepth 20000 in
theorem b248_121 {n : Nat} {h : q_Hp} {Q : Option Value → q_Hp → Prop} {x0 : Nat} {x1 : Int32} {x2 : Int32} {x3 : Int32} {x4 : Int32} {x5 : Int32} (w : q_wp n 248 229 [some (.ref x0), some (.int x1), some (.int x2), some (.int x3), some (.int x4), some (.int 6)] [] h Q) : q_wp n 248 121 [some (.ref x0), some (.int x1), some (.int x2), some (.int x3), some (.int x4), some (.int x5)] [] h Q := by
  refine wp_bipush (v := 6) rfl (by decide) ?_
  refine wp_loc rfl rfl ?_
  refine wp_goto (tgt := 229) rfl (by decide) ?_
  exact w
set_option maxRecDepth 20000 in
theorem b248_128 {n : Nat} {h : q_Hp} {Q : Option Value → q_Hp → Prop} {x0 : Nat} {x1 : Int32} {x2 : Int32} {x3 : Int32} {x4 : Int32} {x5 : Int32} (wt : ¬ x2 = 44 → q_wp n 248 141 [some (.ref x0), some (.int x1), some (.int x2), some (.int x3), some (.int x4), some (.int x5)] [] h Q) (wf : x2 = 44 → q_wp n 248 134 [some (.ref x0), some (.int x1), some (.int x2), some (.int x3), some (.int x4), some (.int x5)] [] h Q) : q_wp n 248 128 [some (.ref x0), some (.int x1), some (.int x2), some (.int x3), some (.int x4), some (.int x5)] [] h Q := by
  refine wp_loc rfl rfl ?_
  refine wp_bipush (v := 44) rfl (by decide) ?_
  exact wp_icne (tgt := 141) rfl (by decide) wt wf
set_option maxRecDepth 20000 in
theorem b248_134 {n : Nat} {h : q_Hp} {Q : Option Value → q_Hp → Prop} {x0 : Nat} {x1 : Int32} {x2 : Int32} {x3 : Int32} {x4 : Int32} {x5 : Int32} (w : q_wp n 248 229 [some (.ref x0), some (.int x1), some (.int x2), some (.int x3), some (.int x4), some (.int 7)] [] h Q) : q_wp n 248 134 [some (.ref x0), some (.int x1), some (.int x2), some (.int x3), some (.int x4), some (.int x5)] [] h Q := by
  refine wp_bipush (v := 7) rfl (by decide) ?_
  refine wp_loc rfl rfl ?_
  refine wp_goto (tgt := 229) rfl (by decide) ?_
  exact w
set_option maxRecDepth 20000 in
theorem b248_141 {n : Nat} {h : q_Hp} {Q : Option Value → q_Hp → Prop} {x0 : Nat} {x1 : Int32} {x2 : Int32} {x3 : Int32} {x4 : Int32} {x5 : Int32} (wt : ¬ x2 = 61 → q_wp n 248 154 [some (.ref x0), some (.int x1), some (.int x2), some (.int x3), some (.int x4), some (.int x5)] [] h Q) (wf : x2 = 61 → q_wp n 248 147 [some (.ref x0), some (.int x1), some (.int x2), some (.int x3), some (.int x4), some (.int x5)] [] h Q) : q_wp n 248 141 [some (.ref x0), some (.int x1), some (.int x2), some (.int x3), some (.int x4), some (.int x5)] [] h Q := by
  refine wp_loc rfl rfl ?_
  refine wp_bipush (v := 61) rfl (by decide) ?_
  exact wp_icne (tgt := 154) rfl (by decide) wt wf
set_option maxRecDepth 20000 in
theorem b248_147 {n : Nat} {h : q_Hp} {Q : Option Value → q_Hp → Prop} {x0 : Nat} {x1 : Int32} {x2 : Int32} {x3 : Int32} {x4 : Int32} {x5 : Int32} (w : q_wp n 248 229 [some (.ref x0), some (.int x1), some (.int x2), some (.int x3), some (.int x4), some (.int 8)] [] h Q) : q_wp n 248 147 [some (.ref x0), some (.int x1), some (.int x2), some (.int x3), some (.int x4), some (.int x5)] [] h Q := by
  refine wp_bipush (v := 8) rfl (by decide) ?_
  refine wp_loc rfl rfl ?_
  refine wp_goto (tgt := 229) rfl (by decide) ?_
  exact w
set_option maxRecDepth 20000 in
theorem b248_154 {n : Nat} {h : q_Hp} {Q : Option Value → q_Hp → Prop} {x0 : Nat} {x1 : Int32} {x2 : Int32} {x3 : Int32} {x4 : Int32} {x5 : Int32} (wt : ¬ x2 = 60 → q_wp n 248 167 [some (.ref x0), some (.int x1), some (.int x2), some (.int x3), some (.int x4), some (.int x5)] [] h Q) (wf : x2 = 60 → q_wp n 248 160 [some (.ref x0), some (.int x1), some (.int x2), some (.int x3), some (.int x4), some (.int x5)] [] h Q) : q_wp n 248 154 [some (.ref x0), some (.int x1), some (.int x2), some (.int x3), some (.int x4), some (.int x5)] [] h Q := by
  refine wp_loc rfl rfl ?_
  refine wp_bipush (v := 60) rfl (by decide) ?_
  exact wp_icne (tgt := 167) rfl (by decide) wt wf
set_option maxRecDepth 20000 in
theorem b248_160 {n : Nat} {h : q_Hp} {Q : Option Value → q_Hp → Prop} {x0 : Nat} {x1 : Int32} {x2 : Int32} {x3 : Int32} {x4 : Int32} {x5 : Int32} (w : q_wp n 248 229 [some (.ref x0), some (.int x1), some (.int x2), some (.int x3), some (.int x4), some (.int 11)] [] h Q) : q_wp n 248 160 [some (.ref x0), some (.int x1), some (.int x2), some (.int x3), some (.int x4), some (.int x5)] [] h Q := by
  refine wp_bipush (v := 11) rfl (by decide) ?_
  refine wp_loc rfl rfl ?_
  refine wp_goto (tgt := 229) rfl (by decide) ?_
  exact w
set_option maxRecDepth 20000 in
theorem b248_167 {n : Nat} {h : q_Hp} {Q : Option Value → q_Hp → Prop} {x0 : Nat} {x1 : Int32} {x2 : Int32} {x3 : Int32} {x4 : Int32} {x5 : Int32} (wt : ¬ x2 = 43 → q_wp n 248 180 [some (.ref x0), some (.int x1), some (.int x2), some (.int x3), some (.int x4), some (.int x5)] [] h Q) (wf : x2 = 43 → q_wp n 248 173 [some (.ref x0), some (.int x1), some (.int x2), some (.int x3), some (.int x4), some (.int x5)] [] h Q) : q_wp n 248 167 [some (.ref x0), some (.int x1), some (.int x2), some (.int x3), some (.int x4), some (.int x5)] [] h Q := by
  refine wp_loc rfl rfl ?_
  refine wp_bipush (v := 43) rfl (by decide) ?_
  exact wp_icne (tgt := 180) rfl (by decide) wt wf
set_option maxRecDepth 20000 in
theorem b248_173 {n : Nat} {h : q_Hp} {Q : Option Value → q_Hp → Prop} {x0 : Nat} {x1 : Int32} {x2 : Int32} {x3 : Int32} {x4 : Int32} {x5 : Int32} (w : q_wp n 248 229 [some (.ref x0), some (.int x1), some (.int x2), some (.int x3), some (.int x4), some (.int 13)] [] h Q) : q_wp n 248 173 [some (.ref x0), some (.int x1), some (.int x2), some (.int x3), some (.int x4), some (.int x5)] [] h Q := by
  refine wp_bipush (v := 13) rfl (by decide) ?_
  refine wp_loc rfl rfl ?_
  refine wp_goto (tgt := 229) rfl (by decide) ?_
  exact w
set_option maxRecDepth 20000 in
theorem b248_180 {n : Nat} {h : q_Hp} {Q : Option Value → q_Hp → Prop} {x0 : Nat} {x1 : Int32} {x2 : Int32} {x3 : Int32} {x4 : Int32} {x5 : Int32} (wt : ¬ x2 = 45 → q_wp n 248 193 [some (.ref x0), some (.int x1), some (.int x2), some (.int x3), some (.int x4), some (.int x5)] [] h Q) (wf : x2 = 45 → q_wp n 248 186 [some (.ref x0), some (.int x1), some (.int x2), some (.int x3), some (.int x4), some (.int x5)] [] h Q) : q_wp n 248 180 [some (.ref x0), some (.int x1), some (.int x2), some (.int x3), some (.int x4), some (.int x5)] [] h Q := by
  refine wp_loc rfl rfl ?_
  refine wp_bipush (v := 45) rfl (by decide) ?_
  exact wp_icne (tgt := 193) rfl (by decide) wt wf
set_option maxRecDepth 20000 in
theorem b248_186 {n : Nat} {h : q_Hp} {Q : Option Value → q_Hp → Prop} {x0 : Nat} {x1 : Int32} {x2 : Int32} {x3 : Int32} {x4 : Int32} {x5 : Int32} (w : q_wp n 248 229 [some (.ref x0), some (.int x1), some (.int x2), some (.int x3), some (.int x4), some (.int 14)] [] h Q) : q_wp n 248 186 [some (.ref x0), some (.int x1), some (.int x2), some (.int x3), some (.int x4), some (.int x5)] [] h Q := by
  refine wp_bipush (v := 14) rfl (by decide) ?_
  refine wp_loc rfl rfl ?_
  refine wp_goto (tgt := 229) rfl (by decide) ?_
  exact w
set_option maxRecDepth 20000 in
theorem b248_193 {n : Nat} {h : q_Hp} {Q : Option Value → q_Hp → Prop} {x0 : Nat} {x1 : Int32} {x2 : Int32} {x3 : Int32} {x4 : Int32} {x5 : Int32} (wt : ¬ x2 = 42 → q_wp n 248 206 [some (.ref x0), some (.int x1), some (.int x2), some (.int x3), some (.int x4), some (.int x5)] [] h Q) (wf : x2 = 42 → q_wp n 248 199 [some (.ref x0), some (.int x1), some (.int x2), some (.int x3), some (.int x4), some (.int x5)] [] h Q) : q_wp n 248 193 [some (.ref x0), some (.int x1), some (.int x2), some (.int x3), some (.int x4), some (.int x5)] [] h Q := by
  refine wp_loc rfl rfl ?_
  refine wp_bipush (v := 42) rfl (by decide) ?_
  exact wp_icne (tgt := 206) rfl (by decide) wt wf
set_option maxRecDepth 20000 in
theorem b248_199 {n : Nat} {h : q_Hp} {Q : Option Value → q_Hp → Prop} {x0 : Nat} {x1 : Int32} {x2 : Int32} {x3 : Int32} {x4 : Int32} {x5 : Int32} (w : q_wp n 248 229 [some (.ref x0), some (.int x1), some (.int x2), some (.int x3), some (.int x4), some (.int 15)] [] h Q) : q_wp n 248 199 [some (.ref x0), some (.int x1), some (.int x2), some (.int x3), some (.int x4), some (.int x5)] [] h Q := by
  refine wp_bipush (v := 15) rfl (by decide) ?_
  refine wp_loc rfl rfl ?_
  refine wp_goto (tgt := 229) rfl (by decide) ?_
  exact w
set_option maxRecDepth 20000 in
theorem b248_206 {n : Nat} {h : q_Hp} {Q : Option Value → q_Hp → Prop} {x0 : Nat} {x1 : Int32} {x2 : Int32} {x3 : Int32} {x4 : Int32} {x5 : Int32} (wt : ¬ x2 = 40 → q_wp n 248 219 [some (.ref x0), some (.int x1), some (.int x2), some (.int x3), some (.int x4), some (.int x5)] [] h Q) (wf : x2 = 40 → q_wp n 248 212 [some (.ref x0), some (.int x1), some (.int x2), some (.int x3), some (.int x4), some (.int x5)] [] h Q) : q_wp n 248 206 [some (.ref x0), some (.int x1), some (.int x2), some (.int x3), some (.int x4), some (.int x5)] [] h Q := by
  refine wp_loc rfl rfl ?_
  refine wp_bipush (v := 40) rfl (by decide) ?_
  exact wp_icne (tgt := 219) rfl (by decide) wt wf
set_option maxRecDepth 20000 in
theorem b248_212 {n : Nat} {h : q_Hp} {Q : Option Value → q_Hp → Prop} {x0 : Nat} {x1 : Int32} {x2 : Int32} {x3 : Int32} {x4 : Int32} {x5 : Int32} (w : q_wp n 248 229 [some (.ref x0), some (.int x1), some (.int x2), some (.int x3), some (.int x4), some (.int 16)] [] h Q) : q_wp n 248 212 [some (.ref x0), some (.int x1), some (.int x2), some (.int x3), some (.int x4), some (.int x5)] [] h Q := by
  refine wp_bipush (v := 16) rfl (by decide) ?_
  refine wp_loc rfl rfl ?_
  refine wp_goto (tgt := 229) rfl (by decide) ?_
  exact w
set_option maxRecDepth 20000 in
theorem b248_219 {n : Nat} {h : q_Hp} {Q : Option Value → q_Hp → Prop} {x0 : Nat} {x1 : Int32} {x2 : Int32} {x3 : Int32} {x4 : Int32} {x5 : Int32} (wt : ¬ x2 = 41 → q_wp n 248 229 [some (.ref x0), some (.int x1), some (.int x2), some (.int x3), some (.int x4), some (.int x5)] [] h Q) (wf : x2 = 41 → q_wp n 248 225 [some (.ref x0), some (.int x1), some (.int x2), some (.int x3), some (.int x4), some (.int x5)] [] h Q) : q_wp n 248 219 [some (.ref x0), some (.int x1), some (.int x2), some (.int x3), some (.int x4), some (.int x5)] [] h Q := by
  refine wp_loc rfl rfl ?_
  refine wp_bipush (v := 41) rfl (by decide) ?_
  exact wp_icne (tgt := 229) rfl (by decide) wt wf
set_option maxRecDepth 20000 in
theorem b248_225 {n : Nat} {h : q_Hp} {Q : Option Value → q_Hp → Prop} {x0 : Nat} {x1 : Int32} {x2 : Int32} {x3 : Int32} {x4 : Int32} {x5 : Int32} (w : q_wp n 248 229 [some (.ref x0), some (.int x1), some (.int x2), some (.int x3), some (.int x4), some (.int 17)] [] h Q) : q_wp n 248 225 [some (.ref x0), some (.int x1), some (.int x2), some (.int x3), some (.int x4), some (.int x5)] [] h Q := by
  refine wp_bipush (v := 17) rfl (by decide) ?_
  refine wp_loc rfl rfl ?_
  exact w
set_option maxRecDepth 20000 in
theorem b248_229 {n : Nat} {h : q_Hp} {Q : Option Value → q_Hp → Prop} {x0 : Nat} {x1 : Int32} {x2 : Int32} {x3 : Int32} {x4 : Int32} {x5 : Int32} {m : Nat} {P : q_Hp → Prop} (hc : q_mV m 245 [.ref x0, .int x5, .int x1, .int 0, .long 0] h P) (hm : m ≤ n) (w : ∀ h1 : q_Hp, P h1 → q_wp (n + 1) 248 238 [some (.ref x0), some (.int x1), some (.int x2), some (.int x3), some (.int x4), some (.int x5)] [] h1 Q) : q_wp (n + 1) 248 229 [some (.ref x0), some (.int x1), some (.int x2), some (.int x3), some (.int x4), some (.int x5)] [] h Q := by
  refine wp_loc rfl rfl ?_
  refine wp_loc rfl rfl ?_
  refine wp_loc rfl rfl ?_
  refine wp_iconst (v := 0) rfl (by decide) ?_
  refine wp_lconst (v := 0) rfl (by decide) ?_
  exact wp_callV (av := [.ref x0, .int x5, .int x1, .int 0, .long 0]) rfl rfl rfl (by decide) rfl rfl rfl hm hc w
set_option maxRecDepth 20000 in
theorem b248_238 {n : Nat} {h : q_Hp} {Q : Option Value → q_Hp → Prop} {x0 : Nat} {x1 : Int32} {x2 : Int32} {x3 : Int32} {x4 : Int32} {x5 : Int32} (wt : x4 = 0 → q_wp n 248 247 [some (.ref x0), some (.int x1), some (.int x2), some (.int x3), some (.int x4), some (.int x5)] [] h Q) (wf : ¬ x4 = 0 → q_wp n 248 243 [some (.ref x0), some (.int x1), some (.int x2), some (.int x3), some (.int x4), some (.int x5)] [] h Q) : q_wp n 248 238 [some (.ref x0), some (.int x1), some (.int x2), some (.int x3), some (.int x4), some (.int x5)] [] h Q := by
  refine wp_loc rfl rfl ?_
  exact wp_ifeq (tgt := 247) rfl (by decide) wt wf
set_option maxRecDepth 20000 in
theorem b248_243 {n : Nat} {h : q_Hp} {Q : Option Value → q_Hp → Prop} {x0 : Nat} {x1 : Int32} {x2 : Int32} {x3 : Int32} {x4 : Int32} {x5 : Int32} (q : Q (some (.int 2)) h) : q_wp n 248 243 [some (.ref x0), some (.int x1), some (.int x2), some (.int x3), some (.int x4), some (.int x5)] [] h Q := by
  refine wp_iconst (v := 2) rfl (by decide) ?_
  refine wp_goto (tgt := 248) rfl (by decide) ?_
  exact wp_ret rfl rfl q
set_option maxRecDepth 20000 in
theorem b248_247 {n : Nat} {h : q_Hp} {Q : Option Value → q_Hp → Prop} {x0 : Nat} {x1 : Int32} {x2 : Int32} {x3 : Int32} {x4 : Int32} {x5 : Int32} (q : Q (some (.int 1)) h) : q_wp n 248 247 [some (.ref x0), some (.int x1), some (.int x2), some (.int x3), some (.int x4), some (.int x5)] [] h Q := by
  refine wp_iconst (v := 1) rfl (by decide) ?_
  exact wp_ret rfl rfl q
theorem b249_0 {n : Nat} {h : q_Hp} {Q : Option Value → q_Hp → Prop} {x0 : Nat} {x1 : Int32} (k0 : q_ok h x0 12) (wt : ¬ (qI h x0 13) = 0 → q_wp n 249 24 [some (.ref x0), some (.int x1)] [] h Q) (wf : (qI h x0 13) = 0 → q_wp n 249 7 [some (.ref x0), some (.int x1)] [] h Q) : q_wp n 249 0 [some (.ref x0), some (.int x1)] [] h Q := by
  refine wp_loc rfl rfl ?_
  refine wp_getI rfl rfl rfl k0 ?_
  exact wp_ifne (tgt := 24) rfl (by decide) wt wf
theorem b249_7 {n : Nat} {h : q_Hp} {Q : Option Value → q_Hp → Prop} {x0 : Nat} {x1 : Int32} {v0 : Nat} (k0 : q_ok h x0 12) (e0 : qR h x0 5 = v0) (k1 : q_ok h v0 20) (i0 : q_in (qI h x0 11) (qK h v0).2) (wt : ¬ (qA h v0 ((qI h x0 11 : Int32).toNatClampNeg)) = x1 → q_wp n 249 24 [some (.ref x0), some (.int x1)] [] h Q) (wf : (qA h v0 ((qI h x0 11 : Int32).toNatClampNeg)) = x1 → q_wp n 249 20 [some (.ref x0), some (.int x1)] [] h Q) : q_wp n 249 7 [some (.ref x0), some (.int x1)] [] h Q := by
  refine wp_loc rfl rfl ?_
  refine wp_getR rfl rfl rfl rfl k0 e0 ?_
  refine wp_loc rfl rfl ?_
  refine wp_getI rfl rfl rfl k0 ?_
  refine wp_iald rfl k1 i0 ?_
  refine wp_loc rfl rfl ?_
  exact wp_icne (tgt := 24) rfl (by decide) wt wf
theorem b249_20 {n : Nat} {h : q_Hp} {Q : Option Value → q_Hp → Prop} {x0 : Nat} {x1 : Int32} (q : Q (some (.int 1)) h) : q_wp n 249 20 [some (.ref x0), some (.int x1)] [] h Q := by
  refine wp_iconst (v := 1) rfl (by decide) ?_
  refine wp_goto (tgt := 25) rfl (by decide) ?_
  exact wp_ret (r := some (.int 1)) rfl rfl q
theorem b249_24 {n : Nat} {h : q_Hp} {Q : Option Value → q_Hp → Prop} {x0 : Nat} {x1 : Int32} (q : Q (some (.int 0)) h) : q_wp n 249 24 [some (.ref x0), some (.int x1)] [] h Q := by
  refine wp_iconst (v := 0) rfl (by decide) ?_
  exact wp_ret (r := some (.int 0)) rfl rfl q
theorem b250_0 {n : Nat} {h : q_Hp} {Q : Option Value → q_Hp → Prop} {x0 : Nat} {x1 : Int32} (k0 : q_ok h x0 12) (wt : (qI h x0 13) ≤ 0 → q_wp n 250 8 [some (.ref x0), some (.int x1)] [] h Q) (wf : ¬ (qI h x0 13) ≤ 0 → q_wp n 250 7 [some (.ref x0), some (.int x1)] [] h Q) : q_wp n 250 0 [some (.ref x0), some (.int x1)] [] h Q := by
  refine wp_loc rfl rfl ?_
  refine wp_getI rfl rfl rfl k0 ?_
  exact wp_ifle (tgt := 8) rfl (by decide) wt wf
theorem b250_7 {n : Nat} {h : q_Hp} {Q : Option Value → q_Hp → Prop} {x0 : Nat} {x1 : Int32} (q : Q none h) : q_wp n 250 7 [some (.ref x0), some (.int x1)] [] h Q := by
  exact wp_ret rfl rfl q
theorem b250_8 {n : Nat} {h : q_Hp} {Q : Option Value → q_Hp → Prop} {x0 : Nat} {x1 : Int32} {v0 : Nat} (k0 : q_ok h x0 12) (e0 : qR h x0 6 = v0) (k1 : q_ok h v0 20) (i0 : q_in (qI (q_sI h x0 13 x1) x0 11) (qK h v0).2) (q : Q none (q_sI (q_sI h x0 13 x1) x0 14 (qA h v0 ((qI (q_sI h x0 13 x1) x0 11 : Int32).toNatClampNeg)))) : q_wp n 250 8 [some (.ref x0), some (.int x1)] [] h Q := by
  refine wp_loc rfl rfl ?_
  refine wp_loc rfl rfl ?_
  refine wp_putI rfl rfl (Or.inl rfl) rfl (fun h9 => by cases h9) k0 ?_
  refine wp_loc rfl rfl ?_
  refine wp_loc rfl rfl ?_
  refine wp_getR rfl rfl rfl rfl k0 e0 ?_
  refine wp_loc rfl rfl ?_
  refine wp_getI rfl rfl rfl k0 ?_
  refine wp_iald rfl k1 i0 ?_
  refine wp_putI rfl rfl (Or.inl rfl) rfl (fun h9 => by cases h9) k0 ?_
  exact wp_ret rfl rfl q
theorem b251_0 {n : Nat} {h : q_Hp} {Q : Option Value → q_Hp → Prop} {x0 : Nat} {x1 : Int32} {x2 : Int32} {v0 : Nat} (k0 : q_ok h x0 12) (e0 : qR h x0 6 = v0) (k1 : q_ok h v0 20) (i0 : q_in x2 (qK h v0).2) (wt : 0 < (qI h x0 13) → q_wp n 251 45 [some (.ref x0), some (.int x1), some (.int x2), some (.int (qA h v0 x2.toNatClampNeg))] [] h Q) (wf : ¬ 0 < (qI h x0 13) → q_wp n 251 14 [some (.ref x0), some (.int x1), some (.int x2), some (.int (qA h v0 x2.toNatClampNeg))] [] h Q) : q_wp n 251 0 [some (.ref x0), some (.int x1), some (.int x2), none] [] h Q := by
  refine wp_loc rfl rfl ?_
  refine wp_getR rfl rfl rfl rfl k0 e0 ?_
  refine wp_loc rfl rfl ?_
  refine wp_iald rfl k1 i0 ?_
  refine wp_loc rfl rfl ?_
  refine wp_loc rfl rfl ?_
  refine wp_getI rfl rfl rfl k0 ?_
  exact wp_ifgt (tgt := 45) rfl (by decide) wt wf
theorem b251_14 {n : Nat} {h : q_Hp} {Q : Option Value → q_Hp → Prop} {x0 : Nat} {x1 : Int32} {x2 : Int32} {x3 : Int32} (k0 : q_ok h x0 12) (wt : (qI h x0 15) = 0 → q_wp n 251 46 [some (.ref x0), some (.int x1), some (.int x2), some (.int x3)] [] h Q) (wf : ¬ (qI h x0 15) = 0 → q_wp n 251 21 [some (.ref x0), some (.int x1), some (.int x2), some (.int x3)] [] h Q) : q_wp n 251 14 [some (.ref x0), some (.int x1), some (.int x2), some (.int x3)] [] h Q := by
  refine wp_loc rfl rfl ?_
  refine wp_getI rfl rfl rfl k0 ?_
  exact wp_ifeq (tgt := 46) rfl (by decide) wt wf
theorem b251_21 {n : Nat} {h : q_Hp} {Q : Option Value → q_Hp → Prop} {x0 : Nat} {x1 : Int32} {x2 : Int32} {x3 : Int32} (k0 : q_ok h x0 12) (wt : (qI h x0 16) < x3 → q_wp n 251 45 [some (.ref x0), some (.int x1), some (.int x2), some (.int x3)] [] h Q) (wf : ¬ (qI h x0 16) < x3 → q_wp n 251 29 [some (.ref x0), some (.int x1), some (.int x2), some (.int x3)] [] h Q) : q_wp n 251 21 [some (.ref x0), some (.int x1), some (.int x2), some (.int x3)] [] h Q := by
  refine wp_loc rfl rfl ?_
  refine wp_loc rfl rfl ?_
  refine wp_getI rfl rfl rfl k0 ?_
  exact wp_icgt (tgt := 45) rfl (by decide) wt wf
theorem b251_29 {n : Nat} {h : q_Hp} {Q : Option Value → q_Hp → Prop} {x0 : Nat} {x1 : Int32} {x2 : Int32} {x3 : Int32} (k0 : q_ok h x0 12) (wt : ¬ x3 = (qI h x0 16) → q_wp n 251 46 [some (.ref x0), some (.int x1), some (.int x2), some (.int x3)] [] h Q) (wf : x3 = (qI h x0 16) → q_wp n 251 37 [some (.ref x0), some (.int x1), some (.int x2), some (.int x3)] [] h Q) : q_wp n 251 29 [some (.ref x0), some (.int x1), some (.int x2), some (.int x3)] [] h Q := by
  refine wp_loc rfl rfl ?_
  refine wp_loc rfl rfl ?_
  refine wp_getI rfl rfl rfl k0 ?_
  exact wp_icne (tgt := 46) rfl (by decide) wt wf
theorem b251_37 {n : Nat} {h : q_Hp} {Q : Option Value → q_Hp → Prop} {x0 : Nat} {x1 : Int32} {x2 : Int32} {x3 : Int32} (k0 : q_ok h x0 12) (wt : x1 < (qI h x0 15) → q_wp n 251 46 [some (.ref x0), some (.int x1), some (.int x2), some (.int x3)] [] h Q) (wf : ¬ x1 < (qI h x0 15) → q_wp n 251 45 [some (.ref x0), some (.int x1), some (.int x2), some (.int x3)] [] h Q) : q_wp n 251 37 [some (.ref x0), some (.int x1), some (.int x2), some (.int x3)] [] h Q := by
  refine wp_loc rfl rfl ?_
  refine wp_loc rfl rfl ?_
  refine wp_getI rfl rfl rfl k0 ?_
  exact wp_iclt (tgt := 46) rfl (by decide) wt wf
theorem b251_45 {n : Nat} {h : q_Hp} {Q : Option Value → q_Hp → Prop} {x0 : Nat} {x1 : Int32} {x2 : Int32} {x3 : Int32} (q : Q none h) : q_wp n 251 45 [some (.ref x0), some (.int x1), some (.int x2), some (.int x3)] [] h Q := by
  exact wp_ret rfl rfl q
theorem b251_46 {n : Nat} {h : q_Hp} {Q : Option Value → q_Hp → Prop} {x0 : Nat} {x1 : Int32} {x2 : Int32} {x3 : Int32} (k0 : q_ok h x0 12) (q : Q none (q_sI (q_sI h x0 15 x1) x0 16 x3)) : q_wp n 251 46 [some (.ref x0), some (.int x1), some (.int x2), some (.int x3)] [] h Q := by
  refine wp_loc rfl rfl ?_
  refine wp_loc rfl rfl ?_
  refine wp_putI rfl rfl (Or.inl rfl) rfl (fun h9 => by cases h9) k0 ?_
  refine wp_loc rfl rfl ?_
  refine wp_loc rfl rfl ?_
  refine wp_putI rfl rfl (Or.inl rfl) rfl (fun h9 => by cases h9) k0 ?_
  exact wp_ret rfl rfl q
theorem b252_0 {n : Nat} {h : q_Hp} {Q : Option Value → q_Hp → Prop} {x0 : Nat} (k0 : q_ok h x0 12) (wt : ¬ (qI h x0 11) = 1200 → q_wp n 252 18 [some (.ref x0)] [] h Q) (wf : (qI h x0 11) = 1200 → q_wp n 252 10 [some (.ref x0)] [] h Q) : q_wp n 252 0 [some (.ref x0)] [] h Q := by
  refine wp_loc rfl rfl ?_
  refine wp_getI rfl rfl rfl k0 ?_
  refine wp_sipush (v := 1200) rfl (by decide) ?_
  exact wp_icne (tgt := 18) rfl (by decide) wt wf
theorem b252_10 {n : Nat} {h : q_Hp} {Q : Option Value → q_Hp → Prop} {x0 : Nat} {m : Nat} {P : q_Hp → Prop} (hc : q_mV m 250 [.ref x0, .int 2] h P) (hm : m ≤ n) (w : ∀ h1 : q_Hp, P h1 → q_wp (n + 1) 252 15 [some (.ref x0)] [] h1 Q) : q_wp (n + 1) 252 10 [some (.ref x0)] [] h Q := by
  refine wp_loc rfl rfl ?_
  refine wp_iconst (v := 2) rfl (by decide) ?_
  exact wp_callV (av := [.ref x0, .int 2]) rfl rfl rfl (by decide) rfl rfl rfl hm hc w
theorem b252_15 {n : Nat} {h : q_Hp} {Q : Option Value → q_Hp → Prop} {x0 : Nat} (q : Q none h) : q_wp n 252 15 [some (.ref x0)] [] h Q := by
  refine wp_goto (tgt := 28) rfl (by decide) ?_
  exact wp_ret rfl rfl q
theorem b252_18 {n : Nat} {h : q_Hp} {Q : Option Value → q_Hp → Prop} {x0 : Nat} (k0 : q_ok h x0 12) (q : Q none (q_sI h x0 11 ((qI h x0 11) + 1))) : q_wp n 252 18 [some (.ref x0)] [] h Q := by
  refine wp_loc rfl rfl ?_
  refine wp_stk rfl rfl rfl ?_
  refine wp_getI rfl rfl rfl k0 ?_
  refine wp_iconst (v := 1) rfl (by decide) ?_
  refine wp_stk rfl rfl rfl ?_
  refine wp_putI rfl rfl (Or.inl rfl) rfl (fun h9 => by cases h9) k0 ?_
  exact wp_ret rfl rfl q
theorem b253_0 {n : Nat} {h : q_Hp} {Q : Option Value → q_Hp → Prop} {x0 : Nat} {x1 : Int32} {m : Nat} {P : Int32 → q_Hp → Prop} (hc : q_mI m 249 [.ref x0, .int x1] h P) (hm : m ≤ n) (w : ∀ (z : Int32) (h1 : q_Hp), P z h1 → q_wp (n + 1) 253 5 [some (.ref x0), some (.int x1)] [.int z] h1 Q) : q_wp (n + 1) 253 0 [some (.ref x0), some (.int x1)] [] h Q := by
  refine wp_loc rfl rfl ?_
  refine wp_loc rfl rfl ?_
  exact wp_callI (av := [.ref x0, .int x1]) rfl rfl rfl (by decide) rfl rfl rfl hm hc w
theorem b253_5 {n : Nat} {h : q_Hp} {Q : Option Value → q_Hp → Prop} {x0 : Nat} {x1 : Int32} {s0 : Int32} (wt : s0 = 0 → q_wp n 253 15 [some (.ref x0), some (.int x1)] [] h Q) (wf : ¬ s0 = 0 → q_wp n 253 8 [some (.ref x0), some (.int x1)] [] h Q) : q_wp n 253 5 [some (.ref x0), some (.int x1)] [.int s0] h Q := by
  exact wp_ifeq (tgt := 15) rfl (by decide) wt wf
theorem b253_8 {n : Nat} {h : q_Hp} {Q : Option Value → q_Hp → Prop} {x0 : Nat} {x1 : Int32} {m : Nat} {P : q_Hp → Prop} (hc : q_mV m 252 [.ref x0] h P) (hm : m ≤ n) (w : ∀ h1 : q_Hp, P h1 → q_wp (n + 1) 253 12 [some (.ref x0), some (.int x1)] [] h1 Q) : q_wp (n + 1) 253 8 [some (.ref x0), some (.int x1)] [] h Q := by
  refine wp_loc rfl rfl ?_
  exact wp_callV (av := [.ref x0]) rfl rfl rfl (by decide) rfl rfl rfl hm hc w
theorem b253_12 {n : Nat} {h : q_Hp} {Q : Option Value → q_Hp → Prop} {x0 : Nat} {x1 : Int32} (w : q_wp n 253 20 [some (.ref x0), some (.int x1)] [] h Q) : q_wp n 253 12 [some (.ref x0), some (.int x1)] [] h Q := by
  refine wp_goto (tgt := 20) rfl (by decide) ?_
  exact w
theorem b253_15 {n : Nat} {h : q_Hp} {Q : Option Value → q_Hp → Prop} {x0 : Nat} {x1 : Int32} {m : Nat} {P : q_Hp → Prop} (hc : q_mV m 250 [.ref x0, .int 1] h P) (hm : m ≤ n) (w : ∀ h1 : q_Hp, P h1 → q_wp (n + 1) 253 20 [some (.ref x0), some (.int x1)] [] h1 Q) : q_wp (n + 1) 253 15 [some (.ref x0), some (.int x1)] [] h Q := by
  refine wp_loc rfl rfl ?_
  refine wp_iconst (v := 1) rfl (by decide) ?_
  exact wp_callV (av := [.ref x0, .int 1]) rfl rfl rfl (by decide) rfl rfl rfl hm hc w
theorem b253_20 {n : Nat} {h : q_Hp} {Q : Option Value → q_Hp → Prop} {x0 : Nat} {x1 : Int32} (q : Q none h) : q_wp n 253 20 [some (.ref x0), some (.int x1)] [] h Q := by
  exact wp_ret rfl rfl q
theorem b254_0 {n : Nat} {h : q_Hp} {Q : Option Value → q_Hp → Prop} {x0 : Nat} (k0 : q_ok h x0 12) (wt : (qI h x0 13) ≤ 0 → q_wp n 254 8 [some (.ref x0)] [] h Q) (wf : ¬ (qI h x0 13) ≤ 0 → q_wp n 254 7 [some (.ref x0)] [] h Q) : q_wp n 254 0 [some (.ref x0)] [] h Q := by
  refine wp_loc rfl rfl ?_
  refine wp_getI rfl rfl rfl k0 ?_
  exact wp_ifle (tgt := 8) rfl (by decide) wt wf
theorem b254_7 {n : Nat} {h : q_Hp} {Q : Option Value → q_Hp → Prop} {x0 : Nat} (q : Q none h) : q_wp n 254 7 [some (.ref x0)] [] h Q := by
  exact wp_ret rfl rfl q
theorem b254_8 {n : Nat} {h : q_Hp} {Q : Option Value → q_Hp → Prop} {x0 : Nat} (k0 : q_ok h x0 12) (wt : ¬ (qI h x0 12) = 8 → q_wp n 254 25 [some (.ref x0)] [] h Q) (wf : (qI h x0 12) = 8 → q_wp n 254 17 [some (.ref x0)] [] h Q) : q_wp n 254 8 [some (.ref x0)] [] h Q := by
  refine wp_loc rfl rfl ?_
  refine wp_getI rfl rfl rfl k0 ?_
  refine wp_bipush (v := 8) rfl (by decide) ?_
  exact wp_icne (tgt := 25) rfl (by decide) wt wf
theorem b254_17 {n : Nat} {h : q_Hp} {Q : Option Value → q_Hp → Prop} {x0 : Nat} {m : Nat} {P : q_Hp → Prop} (hc : q_mV m 250 [.ref x0, .int 2] h P) (hm : m ≤ n) (w : ∀ h1 : q_Hp, P h1 → q_wp (n + 1) 254 22 [some (.ref x0)] [] h1 Q) : q_wp (n + 1) 254 17 [some (.ref x0)] [] h Q := by
  refine wp_loc rfl rfl ?_
  refine wp_iconst (v := 2) rfl (by decide) ?_
  exact wp_callV (av := [.ref x0, .int 2]) rfl rfl rfl (by decide) rfl rfl rfl hm hc w
theorem b254_22 {n : Nat} {h : q_Hp} {Q : Option Value → q_Hp → Prop} {x0 : Nat} (q : Q none h) : q_wp n 254 22 [some (.ref x0)] [] h Q := by
  refine wp_goto (tgt := 35) rfl (by decide) ?_
  exact wp_ret rfl rfl q
theorem b254_25 {n : Nat} {h : q_Hp} {Q : Option Value → q_Hp → Prop} {x0 : Nat} (k0 : q_ok h x0 12) (q : Q none (q_sI h x0 12 ((qI h x0 12) + 1))) : q_wp n 254 25 [some (.ref x0)] [] h Q := by
  refine wp_loc rfl rfl ?_
  refine wp_stk rfl rfl rfl ?_
  refine wp_getI rfl rfl rfl k0 ?_
  refine wp_iconst (v := 1) rfl (by decide) ?_
  refine wp_stk rfl rfl rfl ?_
  refine wp_putI rfl rfl (Or.inl rfl) rfl (fun h9 => by cases h9) k0 ?_
  exact wp_ret rfl rfl q
theorem b255_0 {n : Nat} {h : q_Hp} {Q : Option Value → q_Hp → Prop} {x0 : Nat} {x1 : Int32} (w : q_wp n 255 2 [some (.ref x0), some (.int x1), some (.int 0)] [] h Q) : q_wp n 255 0 [some (.ref x0), some (.int x1), none] [] h Q := by
  refine wp_iconst (v := 0) rfl (by decide) ?_
  refine wp_loc rfl rfl ?_
  exact w
theorem b255_2 {n : Nat} {h : q_Hp} {Q : Option Value → q_Hp → Prop} {x0 : Nat} {x1 : Int32} {x2 : Int32} (k0 : q_ok h x0 12) (wt : (qI h x0 18) ≤ x2 → q_wp n 255 34 [some (.ref x0), some (.int x1), some (.int x2)] [] h Q) (wf : ¬ (qI h x0 18) ≤ x2 → q_wp n 255 10 [some (.ref x0), some (.int x1), some (.int x2)] [] h Q) : q_wp n 255 2 [some (.ref x0), some (.int x1), some (.int x2)] [] h Q := by
  refine wp_loc rfl rfl ?_
  refine wp_loc rfl rfl ?_
  refine wp_getI rfl rfl rfl k0 ?_
  exact wp_icge (tgt := 34) rfl (by decide) wt wf
theorem b255_10 {n : Nat} {h : q_Hp} {Q : Option Value → q_Hp → Prop} {x0 : Nat} {x1 : Int32} {x2 : Int32} {v0 : Nat} {v1 : Nat} (k0 : q_ok h x0 12) (e0 : qR h x0 64 = v0) (k1 : q_ok h v0 21) (i0 : q_in x2 (qK h v0).2) (e1 : qR h x0 8 = v1) (k2 : q_ok h v1 21) (i1 : q_in x1 (qK h v1).2) (wt : ¬ (lg_cmp (qL h v0 x2.toNatClampNeg) (qL h v1 x1.toNatClampNeg)) = 0 → q_wp n 255 28 [some (.ref x0), some (.int x1), some (.int x2)] [] h Q) (wf : (lg_cmp (qL h v0 x2.toNatClampNeg) (qL h v1 x1.toNatClampNeg)) = 0 → q_wp n 255 26 [some (.ref x0), some (.int x1), some (.int x2)] [] h Q) : q_wp n 255 10 [some (.ref x0), some (.int x1), some (.int x2)] [] h Q := by
  refine wp_loc rfl rfl ?_
  refine wp_getR rfl rfl rfl rfl k0 e0 ?_
  refine wp_loc rfl rfl ?_
  refine wp_lald rfl k1 i0 ?_
  refine wp_loc rfl rfl ?_
  refine wp_getR rfl rfl rfl rfl k0 e1 ?_
  refine wp_loc rfl rfl ?_
  refine wp_lald rfl k2 i1 ?_
  refine wp_stk rfl rfl rfl ?_
  exact wp_ifne (tgt := 28) rfl (by decide) wt wf
theorem b255_26 {n : Nat} {h : q_Hp} {Q : Option Value → q_Hp → Prop} {x0 : Nat} {x1 : Int32} {x2 : Int32} (q : Q (some (.int x2)) h) : q_wp n 255 26 [some (.ref x0), some (.int x1), some (.int x2)] [] h Q := by
  refine wp_loc rfl rfl ?_
  exact wp_ret rfl rfl q
theorem b255_28 {n : Nat} {h : q_Hp} {Q : Option Value → q_Hp → Prop} {x0 : Nat} {x1 : Int32} {x2 : Int32} (w : q_wp n 255 2 [some (.ref x0), some (.int x1), some (.int (x2 + 1))] [] h Q) : q_wp n 255 28 [some (.ref x0), some (.int x1), some (.int x2)] [] h Q := by
  refine wp_iinc (v := 1) rfl rfl (by decide) rfl ?_
  refine wp_goto (tgt := 2) rfl (by decide) ?_
  exact w
theorem b255_34 {n : Nat} {h : q_Hp} {Q : Option Value → q_Hp → Prop} {x0 : Nat} {x1 : Int32} {x2 : Int32} {m : Nat} {P : q_Hp → Prop} (hc : q_mV m 251 [.ref x0, .int 4, .int x1] h P) (hm : m ≤ n) (w : ∀ h1 : q_Hp, P h1 → q_wp (n + 1) 255 40 [some (.ref x0), some (.int x1), some (.int x2)] [] h1 Q) : q_wp (n + 1) 255 34 [some (.ref x0), some (.int x1), some (.int x2)] [] h Q := by
  refine wp_loc rfl rfl ?_
  refine wp_iconst (v := 4) rfl (by decide) ?_
  refine wp_loc rfl rfl ?_
  exact wp_callV (av := [.ref x0, .int 4, .int x1]) rfl rfl rfl (by decide) rfl rfl rfl hm hc w
theorem b255_40 {n : Nat} {h : q_Hp} {Q : Option Value → q_Hp → Prop} {x0 : Nat} {x1 : Int32} {x2 : Int32} (q : Q (some (.int (-1))) h) : q_wp n 255 40 [some (.ref x0), some (.int x1), some (.int x2)] [] h Q := by
  refine wp_iconst (v := (-1)) rfl (by decide) ?_
  exact wp_ret rfl rfl q
theorem b256_0 {n : Nat} {h : q_Hp} {Q : Option Value → q_Hp → Prop} {x0 : Nat} {x1 : Int32} (w : q_wp n 256 2 [some (.ref x0), some (.int x1), some (.int 0)] [] h Q) : q_wp n 256 0 [some (.ref x0), some (.int x1), none] [] h Q := by
  refine wp_iconst (v := 0) rfl (by decide) ?_
  refine wp_loc rfl rfl ?_
  exact w
theorem b256_2 {n : Nat} {h : q_Hp} {Q : Option Value → q_Hp → Prop} {x0 : Nat} {x1 : Int32} {x2 : Int32} (k0 : q_ok h x0 12) (wt : (qI h x0 19) ≤ x2 → q_wp n 256 34 [some (.ref x0), some (.int x1), some (.int x2)] [] h Q) (wf : ¬ (qI h x0 19) ≤ x2 → q_wp n 256 10 [some (.ref x0), some (.int x1), some (.int x2)] [] h Q) : q_wp n 256 2 [some (.ref x0), some (.int x1), some (.int x2)] [] h Q := by
  refine wp_loc rfl rfl ?_
  refine wp_loc rfl rfl ?_
  refine wp_getI rfl rfl rfl k0 ?_
  exact wp_icge (tgt := 34) rfl (by decide) wt wf
theorem b256_10 {n : Nat} {h : q_Hp} {Q : Option Value → q_Hp → Prop} {x0 : Nat} {x1 : Int32} {x2 : Int32} {v0 : Nat} {v1 : Nat} (k0 : q_ok h x0 12) (e0 : qR h x0 65 = v0) (k1 : q_ok h v0 21) (i0 : q_in x2 (qK h v0).2) (e1 : qR h x0 8 = v1) (k2 : q_ok h v1 21) (i1 : q_in x1 (qK h v1).2) (wt : ¬ (lg_cmp (qL h v0 x2.toNatClampNeg) (qL h v1 x1.toNatClampNeg)) = 0 → q_wp n 256 28 [some (.ref x0), some (.int x1), some (.int x2)] [] h Q) (wf : (lg_cmp (qL h v0 x2.toNatClampNeg) (qL h v1 x1.toNatClampNeg)) = 0 → q_wp n 256 26 [some (.ref x0), some (.int x1), some (.int x2)] [] h Q) : q_wp n 256 10 [some (.ref x0), some (.int x1), some (.int x2)] [] h Q := by
  refine wp_loc rfl rfl ?_
  refine wp_getR rfl rfl rfl rfl k0 e0 ?_
  refine wp_loc rfl rfl ?_
  refine wp_lald rfl k1 i0 ?_
  refine wp_loc rfl rfl ?_
  refine wp_getR rfl rfl rfl rfl k0 e1 ?_
  refine wp_loc rfl rfl ?_
  refine wp_lald rfl k2 i1 ?_
  refine wp_stk rfl rfl rfl ?_
  exact wp_ifne (tgt := 28) rfl (by decide) wt wf
theorem b256_26 {n : Nat} {h : q_Hp} {Q : Option Value → q_Hp → Prop} {x0 : Nat} {x1 : Int32} {x2 : Int32} (q : Q (some (.int x2)) h) : q_wp n 256 26 [some (.ref x0), some (.int x1), some (.int x2)] [] h Q := by
  refine wp_loc rfl rfl ?_
  exact wp_ret rfl rfl q
theorem b256_28 {n : Nat} {h : q_Hp} {Q : Option Value → q_Hp → Prop} {x0 : Nat} {x1 : Int32} {x2 : Int32} (w : q_wp n 256 2 [some (.ref x0), some (.int x1), some (.int (x2 + 1))] [] h Q) : q_wp n 256 28 [some (.ref x0), some (.int x1), some (.int x2)] [] h Q := by
  refine wp_iinc (v := 1) rfl rfl (by decide) rfl ?_
  refine wp_goto (tgt := 2) rfl (by decide) ?_
  exact w
theorem b256_34 {n : Nat} {h : q_Hp} {Q : Option Value → q_Hp → Prop} {x0 : Nat} {x1 : Int32} {x2 : Int32} {m : Nat} {P : q_Hp → Prop} (hc : q_mV m 251 [.ref x0, .int 4, .int x1] h P) (hm : m ≤ n) (w : ∀ h1 : q_Hp, P h1 → q_wp (n + 1) 256 40 [some (.ref x0), some (.int x1), some (.int x2)] [] h1 Q) : q_wp (n + 1) 256 34 [some (.ref x0), some (.int x1), some (.int x2)] [] h Q := by
  refine wp_loc rfl rfl ?_
  refine wp_iconst (v := 4) rfl (by decide) ?_
  refine wp_loc rfl rfl ?_
  exact wp_callV (av := [.ref x0, .int 4, .int x1]) rfl rfl rfl (by decide) rfl rfl rfl hm hc w
theorem b256_40 {n : Nat} {h : q_Hp} {Q : Option Value → q_Hp → Prop} {x0 : Nat} {x1 : Int32} {x2 : Int32} (q : Q (some (.int (-1))) h) : q_wp n 256 40 [some (.ref x0), some (.int x1), some (.int x2)] [] h Q := by
  refine wp_iconst (v := (-1)) rfl (by decide) ?_
  exact wp_ret rfl rfl q
theorem b257_0 {n : Nat} {h : q_Hp} {Q : Option Value → q_Hp → Prop} {x0 : Nat} {x1 : Int32} (w : q_wp n 257 2 [some (.ref x0), some (.int x1), some (.int 0)] [] h Q) : q_wp n 257 0 [some (.ref x0), some (.int x1), none] [] h Q := by
  refine wp_iconst (v := 0) rfl (by decide) ?_
  refine wp_loc rfl rfl ?_
  exact w
theorem b257_2 {n : Nat} {h : q_Hp} {Q : Option Value → q_Hp → Prop} {x0 : Nat} {x1 : Int32} {x2 : Int32} (k0 : q_ok h x0 12) (wt : (qI h x0 68) ≤ x2 → q_wp n 257 34 [some (.ref x0), some (.int x1), some (.int x2)] [] h Q) (wf : ¬ (qI h x0 68) ≤ x2 → q_wp n 257 10 [some (.ref x0), some (.int x1), some (.int x2)] [] h Q) : q_wp n 257 2 [some (.ref x0), some (.int x1), some (.int x2)] [] h Q := by
  refine wp_loc rfl rfl ?_
  refine wp_loc rfl rfl ?_
  refine wp_getI rfl rfl rfl k0 ?_
  exact wp_icge (tgt := 34) rfl (by decide) wt wf
theorem b257_10 {n : Nat} {h : q_Hp} {Q : Option Value → q_Hp → Prop} {x0 : Nat} {x1 : Int32} {x2 : Int32} {v0 : Nat} {v1 : Nat} (k0 : q_ok h x0 12) (e0 : qR h x0 69 = v0) (k1 : q_ok h v0 21) (i0 : q_in x2 (qK h v0).2) (e1 : qR h x0 8 = v1) (k2 : q_ok h v1 21) (i1 : q_in x1 (qK h v1).2) (wt : ¬ (lg_cmp (qL h v0 x2.toNatClampNeg) (qL h v1 x1.toNatClampNeg)) = 0 → q_wp n 257 28 [some (.ref x0), some (.int x1), some (.int x2)] [] h Q) (wf : (lg_cmp (qL h v0 x2.toNatClampNeg) (qL h v1 x1.toNatClampNeg)) = 0 → q_wp n 257 26 [some (.ref x0), some (.int x1), some (.int x2)] [] h Q) : q_wp n 257 10 [some (.ref x0), some (.int x1), some (.int x2)] [] h Q := by
  refine wp_loc rfl rfl ?_
  refine wp_getR rfl rfl rfl rfl k0 e0 ?_
  refine wp_loc rfl rfl ?_
  refine wp_lald rfl k1 i0 ?_
  refine wp_loc rfl rfl ?_
  refine wp_getR rfl rfl rfl rfl k0 e1 ?_
  refine wp_loc rfl rfl ?_
  refine wp_lald rfl k2 i1 ?_
  refine wp_stk rfl rfl rfl ?_
  exact wp_ifne (tgt := 28) rfl (by decide) wt wf
theorem b257_26 {n : Nat} {h : q_Hp} {Q : Option Value → q_Hp → Prop} {x0 : Nat} {x1 : Int32} {x2 : Int32} (q : Q (some (.int x2)) h) : q_wp n 257 26 [some (.ref x0), some (.int x1), some (.int x2)] [] h Q := by
  refine wp_loc rfl rfl ?_
  exact wp_ret rfl rfl q
theorem b257_28 {n : Nat} {h : q_Hp} {Q : Option Value → q_Hp → Prop} {x0 : Nat} {x1 : Int32} {x2 : Int32} (w : q_wp n 257 2 [some (.ref x0), some (.int x1), some (.int (x2 + 1))] [] h Q) : q_wp n 257 28 [some (.ref x0), some (.int x1), some (.int x2)] [] h Q := by
  refine wp_iinc (v := 1) rfl rfl (by decide) rfl ?_
  refine wp_goto (tgt := 2) rfl (by decide) ?_
  exact w
theorem b257_34 {n : Nat} {h : q_Hp} {Q : Option Value → q_Hp → Prop} {x0 : Nat} {x1 : Int32} {x2 : Int32} (q : Q (some (.int (-1))) h) : q_wp n 257 34 [some (.ref x0), some (.int x1), some (.int x2)] [] h Q := by
  refine wp_iconst (v := (-1)) rfl (by decide) ?_
  exact wp_ret rfl rfl q
theorem b258_0 {n : Nat} {h : q_Hp} {Q : Option Value → q_Hp → Prop} {x0 : Nat} {x1 : Int32} {x2 : Int32} {x3 : Int32} {x4 : Int32} (k0 : q_ok h x0 12) (wt : (qI h x0 13) ≤ 0 → q_wp n 258 8 [some (.ref x0), some (.int x1), some (.int x2), some (.int x3), some (.int x4)] [] h Q) (wf : ¬ (qI h x0 13) ≤ 0 → q_wp n 258 7 [some (.ref x0), some (.int x1), some (.int x2), some (.int x3), some (.int x4)] [] h Q) : q_wp n 258 0 [some (.ref x0), some (.int x1), some (.int x2), some (.int x3), some (.int x4)] [] h Q := by
  refine wp_loc rfl rfl ?_
  refine wp_getI rfl rfl rfl k0 ?_
  exact wp_ifle (tgt := 8) rfl (by decide) wt wf
theorem b258_7 {n : Nat} {h : q_Hp} {Q : Option Value → q_Hp → Prop} {x0 : Nat} {x1 : Int32} {x2 : Int32} {x3 : Int32} {x4 : Int32} (q : Q none h) : q_wp n 258 7 [some (.ref x0), some (.int x1), some (.int x2), some (.int x3), some (.int x4)] [] h Q := by
  exact wp_ret rfl rfl q
theorem b258_8 {n : Nat} {h : q_Hp} {Q : Option Value → q_Hp → Prop} {x0 : Nat} {x1 : Int32} {x2 : Int32} {x3 : Int32} {x4 : Int32} {m : Nat} {P : Int32 → q_Hp → Prop} (hc : q_mI m 257 [.ref x0, .int x1] h P) (hm : m ≤ n) (w : ∀ (z : Int32) (h1 : q_Hp), P z h1 → q_wp (n + 1) 258 13 [some (.ref x0), some (.int x1), some (.int x2), some (.int x3), some (.int x4)] [.int z] h1 Q) : q_wp (n + 1) 258 8 [some (.ref x0), some (.int x1), some (.int x2), some (.int x3), some (.int x4)] [] h Q := by
  refine wp_loc rfl rfl ?_
  refine wp_loc rfl rfl ?_
  exact wp_callI (av := [.ref x0, .int x1]) rfl rfl rfl (by decide) rfl rfl rfl hm hc w
theorem b258_13 {n : Nat} {h : q_Hp} {Q : Option Value → q_Hp → Prop} {x0 : Nat} {x1 : Int32} {x2 : Int32} {x3 : Int32} {x4 : Int32} {s0 : Int32} (wt : s0 = (-1) → q_wp n 258 23 [some (.ref x0), some (.int x1), some (.int x2), some (.int x3), some (.int x4)] [] h Q) (wf : ¬ s0 = (-1) → q_wp n 258 17 [some (.ref x0), some (.int x1), some (.int x2), some (.int x3), some (.int x4)] [] h Q) : q_wp n 258 13 [some (.ref x0), some (.int x1), some (.int x2), some (.int x3), some (.int x4)] [.int s0] h Q := by
  refine wp_iconst (v := (-1)) rfl (by decide) ?_
  exact wp_iceq (tgt := 23) rfl (by decide) wt wf
theorem b258_17 {n : Nat} {h : q_Hp} {Q : Option Value → q_Hp → Prop} {x0 : Nat} {x1 : Int32} {x2 : Int32} {x3 : Int32} {x4 : Int32} {m : Nat} {P : q_Hp → Prop} (hc : q_mV m 251 [.ref x0, .int 3, .int x1] h P) (hm : m ≤ n) (w : ∀ h1 : q_Hp, P h1 → q_wp (n + 1) 258 23 [some (.ref x0), some (.int x1), some (.int x2), some (.int x3), some (.int x4)] [] h1 Q) : q_wp (n + 1) 258 17 [some (.ref x0), some (.int x1), some (.int x2), some (.int x3), some (.int x4)] [] h Q := by
  refine wp_loc rfl rfl ?_
  refine wp_iconst (v := 3) rfl (by decide) ?_
  refine wp_loc rfl rfl ?_
  exact wp_callV (av := [.ref x0, .int 3, .int x1]) rfl rfl rfl (by decide) rfl rfl rfl hm hc w
theorem b258_23 {n : Nat} {h : q_Hp} {Q : Option Value → q_Hp → Prop} {x0 : Nat} {x1 : Int32} {x2 : Int32} {x3 : Int32} {x4 : Int32} {v0 : Nat} {v1 : Nat} {v2 : Nat} {v3 : Nat} {v4 : Nat} {v5 : Nat} (k0 : q_ok h x0 12) (e0 : qR h x0 69 = v0) (e1 : qR h x0 8 = v1) (k1 : q_ok h v1 21) (i0 : q_in x1 (qK h v1).2) (k2 : q_ok h v0 21) (i1 : q_in (qI h x0 68) (qK h v0).2) (e2 : qR h x0 70 = v2) (k3 : q_ok h v2 20) (i2 : q_in (qI h x0 68) (qK h v2).2) (e3 : qR h x0 71 = v3) (k4 : q_ok h v3 20) (i3 : q_in (qI h x0 68) (qK h v3).2) (e4 : qR h x0 72 = v4) (k5 : q_ok h v4 20) (i4 : q_in (qI h x0 68) (qK h v4).2) (e5 : qR h x0 73 = v5) (k6 : q_ok h v5 23) (i5 : q_in (qI h x0 68) (qK h v5).2) (q : Q none (q_sI (q_sA (q_sA (q_sA (q_sA (q_sL h v0 ((qI h x0 68 : Int32).toNatClampNeg) (qL h v1 x1.toNatClampNeg)) v2 ((qI h x0 68 : Int32).toNatClampNeg) x2) v3 ((qI h x0 68 : Int32).toNatClampNeg) x3) v4 ((qI h x0 68 : Int32).toNatClampNeg) x4) v5 ((qI h x0 68 : Int32).toNatClampNeg) (vp_nar .boolean 0)) x0 68 ((qI h x0 68) + 1))) : q_wp n 258 23 [some (.ref x0), some (.int x1), some (.int x2), some (.int x3), some (.int x4)] [] h Q := by
  refine wp_loc rfl rfl ?_
  refine wp_getR rfl rfl rfl rfl k0 e0 ?_
  refine wp_loc rfl rfl ?_
  refine wp_getI rfl rfl rfl k0 ?_
  refine wp_loc rfl rfl ?_
  refine wp_getR rfl rfl rfl rfl k0 e1 ?_
  refine wp_loc rfl rfl ?_
  refine wp_lald rfl k1 i0 ?_
  refine wp_last rfl k2 i1 ?_
  refine wp_loc rfl rfl ?_
  refine wp_getR rfl rfl rfl rfl k0 e2 ?_
  refine wp_loc rfl rfl ?_
  refine wp_getI rfl rfl rfl k0 ?_
  refine wp_loc rfl rfl ?_
  refine wp_iast rfl k3 i2 ?_
  refine wp_loc rfl rfl ?_
  refine wp_getR rfl rfl rfl rfl k0 e3 ?_
  refine wp_loc rfl rfl ?_
  refine wp_getI rfl rfl rfl k0 ?_
  refine wp_loc rfl rfl ?_
  refine wp_iast rfl k4 i3 ?_
  refine wp_loc rfl rfl ?_
  refine wp_getR rfl rfl rfl rfl k0 e4 ?_
  refine wp_loc rfl rfl ?_
  refine wp_getI rfl rfl rfl k0 ?_
  refine wp_loc rfl rfl ?_
  refine wp_iast rfl k5 i4 ?_
  refine wp_loc rfl rfl ?_
  refine wp_getR rfl rfl rfl rfl k0 e5 ?_
  refine wp_loc rfl rfl ?_
  refine wp_getI rfl rfl rfl k0 ?_
  refine wp_iconst (v := 0) rfl (by decide) ?_
  refine wp_zast rfl k6 i5 ?_
  refine wp_loc rfl rfl ?_
  refine wp_stk rfl rfl rfl ?_
  refine wp_getI rfl rfl rfl k0 ?_
  refine wp_iconst (v := 1) rfl (by decide) ?_
  refine wp_stk rfl rfl rfl ?_
  refine wp_putI rfl rfl (Or.inl rfl) rfl (fun h9 => by cases h9) k0 ?_
  exact wp_ret rfl rfl q
theorem b259_0 {n : Nat} {h : q_Hp} {Q : Option Value → q_Hp → Prop} {x0 : Nat} {x1 : Int32} {x2 : Int32} {x3 : Int32} (w : q_wp n 259 3 [some (.ref x0), some (.int x1), some (.int x2), some (.int x3), some (.int x2)] [] h Q) : q_wp n 259 0 [some (.ref x0), some (.int x1), some (.int x2), some (.int x3), none] [] h Q := by
  refine wp_loc rfl rfl ?_
  refine wp_loc rfl rfl ?_
  exact w
theorem b259_3 {n : Nat} {h : q_Hp} {Q : Option Value → q_Hp → Prop} {x0 : Nat} {x1 : Int32} {x2 : Int32} {x3 : Int32} {x4 : Int32} (wt : x4 = (-1) → q_wp n 259 29 [some (.ref x0), some (.int x1), some (.int x2), some (.int x3), some (.int x4)] [] h Q) (wf : ¬ x4 = (-1) → q_wp n 259 9 [some (.ref x0), some (.int x1), some (.int x2), some (.int x3), some (.int x4)] [] h Q) : q_wp n 259 3 [some (.ref x0), some (.int x1), some (.int x2), some (.int x3), some (.int x4)] [] h Q := by
  refine wp_loc rfl rfl ?_
  refine wp_iconst (v := (-1)) rfl (by decide) ?_
  exact wp_iceq (tgt := 29) rfl (by decide) wt wf
theorem b259_9 {n : Nat} {h : q_Hp} {Q : Option Value → q_Hp → Prop} {x0 : Nat} {x1 : Int32} {x2 : Int32} {x3 : Int32} {x4 : Int32} (wt : x4 = x3 → q_wp n 259 29 [some (.ref x0), some (.int x1), some (.int x2), some (.int x3), some (.int x4)] [] h Q) (wf : ¬ x4 = x3 → q_wp n 259 15 [some (.ref x0), some (.int x1), some (.int x2), some (.int x3), some (.int x4)] [] h Q) : q_wp n 259 9 [some (.ref x0), some (.int x1), some (.int x2), some (.int x3), some (.int x4)] [] h Q := by
  refine wp_loc rfl rfl ?_
  refine wp_loc rfl rfl ?_
  exact wp_iceq (tgt := 29) rfl (by decide) wt wf
theorem b259_15 {n : Nat} {h : q_Hp} {Q : Option Value → q_Hp → Prop} {x0 : Nat} {x1 : Int32} {x2 : Int32} {x3 : Int32} {x4 : Int32} {v0 : Nat} (k0 : q_ok h x0 12) (e0 : qR h x0 28 = v0) (k1 : q_ok h v0 20) (i0 : q_in (x1 + x4) (qK h v0).2) (w : q_wp n 259 3 [some (.ref x0), some (.int x1), some (.int x2), some (.int x3), some (.int (qA h v0 ((x1 + x4 : Int32).toNatClampNeg)))] [] h Q) : q_wp n 259 15 [some (.ref x0), some (.int x1), some (.int x2), some (.int x3), some (.int x4)] [] h Q := by
  refine wp_loc rfl rfl ?_
  refine wp_getR rfl rfl rfl rfl k0 e0 ?_
  refine wp_loc rfl rfl ?_
  refine wp_loc rfl rfl ?_
  refine wp_stk rfl rfl rfl ?_
  refine wp_iald rfl k1 i0 ?_
  refine wp_loc rfl rfl ?_
  refine wp_goto (tgt := 3) rfl (by decide) ?_
  exact w
theorem b259_29 {n : Nat} {h : q_Hp} {Q : Option Value → q_Hp → Prop} {x0 : Nat} {x1 : Int32} {x2 : Int32} {x3 : Int32} {x4 : Int32} (wt : x4 = (-1) → q_wp n 259 39 [some (.ref x0), some (.int x1), some (.int x2), some (.int x3), some (.int x4)] [] h Q) (wf : ¬ x4 = (-1) → q_wp n 259 35 [some (.ref x0), some (.int x1), some (.int x2), some (.int x3), some (.int x4)] [] h Q) : q_wp n 259 29 [some (.ref x0), some (.int x1), some (.int x2), some (.int x3), some (.int x4)] [] h Q := by
  refine wp_loc rfl rfl ?_
  refine wp_iconst (v := (-1)) rfl (by decide) ?_
  exact wp_iceq (tgt := 39) rfl (by decide) wt wf
theorem b259_35 {n : Nat} {h : q_Hp} {Q : Option Value → q_Hp → Prop} {x0 : Nat} {x1 : Int32} {x2 : Int32} {x3 : Int32} {x4 : Int32} (q : Q (some (.int 1)) h) : q_wp n 259 35 [some (.ref x0), some (.int x1), some (.int x2), some (.int x3), some (.int x4)] [] h Q := by
  refine wp_iconst (v := 1) rfl (by decide) ?_
  refine wp_goto (tgt := 40) rfl (by decide) ?_
  exact wp_ret (r := some (.int 1)) rfl rfl q
theorem b259_39 {n : Nat} {h : q_Hp} {Q : Option Value → q_Hp → Prop} {x0 : Nat} {x1 : Int32} {x2 : Int32} {x3 : Int32} {x4 : Int32} (q : Q (some (.int 0)) h) : q_wp n 259 39 [some (.ref x0), some (.int x1), some (.int x2), some (.int x3), some (.int x4)] [] h Q := by
  refine wp_iconst (v := 0) rfl (by decide) ?_
  exact wp_ret (r := some (.int 0)) rfl rfl q
set_option maxRecDepth 20000 in
theorem b260_0 {n : Nat} {h : q_Hp} {Q : Option Value → q_Hp → Prop} {x0 : Nat} (k0 : q_ok h x0 12) (w : q_wp n 260 10 [some (.ref x0), some (.int 0)] [] (q_sI h x0 4 (qI h x0 2)) Q) : q_wp n 260 0 [some (.ref x0), none] [] h Q := by
  refine wp_loc rfl rfl ?_
  refine wp_loc rfl rfl ?_
  refine wp_getI rfl rfl rfl k0 ?_
  refine wp_putI rfl rfl (Or.inl rfl) rfl (fun h9 => by cases h9) k0 ?_
  refine wp_iconst (v := 0) rfl (by decide) ?_
  refine wp_loc rfl rfl ?_
  exact w
set_option maxRecDepth 20000 in
theorem b260_10 {n : Nat} {h : q_Hp} {Q : Option Value → q_Hp → Prop} {x0 : Nat} {x1 : Int32} (k0 : q_ok h x0 12) (wt : (qI h x0 4) ≤ x1 → q_wp n 260 36 [some (.ref x0), some (.int x1)] [] h Q) (wf : ¬ (qI h x0 4) ≤ x1 → q_wp n 260 18 [some (.ref x0), some (.int x1)] [] h Q) : q_wp n 260 10 [some (.ref x0), some (.int x1)] [] h Q := by
  refine wp_loc rfl rfl ?_
  refine wp_loc rfl rfl ?_
  refine wp_getI rfl rfl rfl k0 ?_
  exact wp_icge (tgt := 36) rfl (by decide) wt wf
set_option maxRecDepth 20000 in
theorem b260_18 {n : Nat} {h : q_Hp} {Q : Option Value → q_Hp → Prop} {x0 : Nat} {x1 : Int32} {v0 : Nat} {v1 : Nat} (k0 : q_ok h x0 12) (e0 : qR h x0 3 = v0) (e1 : qR h x0 1 = v1) (b3 : q_ok h v1 22 ∨ q_ok h v1 23) (i0 : q_in x1 (qK h v1).2) (k1 : q_ok h v0 22) (i1 : q_in x1 (qK h v0).2) (w : q_wp n 260 10 [some (.ref x0), some (.int (x1 + 1))] [] (q_sA h v0 x1.toNatClampNeg (vp_nar .byte (qA h v1 x1.toNatClampNeg))) Q) : q_wp n 260 18 [some (.ref x0), some (.int x1)] [] h Q := by
  refine wp_loc rfl rfl ?_
  refine wp_getR rfl rfl rfl rfl k0 e0 ?_
  refine wp_loc rfl rfl ?_
  refine wp_loc rfl rfl ?_
  refine wp_getR rfl rfl rfl rfl k0 e1 ?_
  refine wp_loc rfl rfl ?_
  refine wp_bald rfl b3 i0 ?_
  refine wp_bast rfl k1 i1 ?_
  refine wp_iinc (v := 1) rfl rfl (by decide) rfl ?_
  refine wp_goto (tgt := 10) rfl (by decide) ?_
  exact w
set_option maxRecDepth 20000 in
theorem b260_36 {n : Nat} {h : q_Hp} {Q : Option Value → q_Hp → Prop} {x0 : Nat} {x1 : Int32} (k0 : q_ok h x0 12) {m : Nat} {P : q_Hp → Prop} (hc : q_mV m 246 [.ref x0] (q_sI h x0 2 0) P) (hm : m ≤ n) (w : ∀ h1 : q_Hp, P h1 → q_wp (n + 1) 260 45 [some (.ref x0), some (.int x1)] [] h1 Q) : q_wp (n + 1) 260 36 [some (.ref x0), some (.int x1)] [] h Q := by
  refine wp_loc rfl rfl ?_
  refine wp_iconst (v := 0) rfl (by decide) ?_
  refine wp_putI rfl rfl (Or.inl rfl) rfl (fun h9 => by cases h9) k0 ?_
  refine wp_loc rfl rfl ?_
  exact wp_callV (av := [.ref x0]) rfl rfl rfl (by decide) rfl rfl rfl hm hc w
set_option maxRecDepth 20000 in
theorem b260_45 {n : Nat} {h : q_Hp} {Q : Option Value → q_Hp → Prop} {x0 : Nat} {x1 : Int32} (k0 : q_ok h x0 12) (w : q_wp n 260 104 [some (.ref x0), some (.int x1)] [] (q_sI (q_sI (q_sI (q_sI (q_sI (q_sI (q_sI (q_sI (q_sI (q_sI (q_sI h x0 11 0) x0 12 0) x0 13 0) x0 15 0) x0 18 0) x0 19 0) x0 20 0) x0 21 0) x0 22 1300) x0 23 1300) x0 84 0) Q) : q_wp n 260 45 [some (.ref x0), some (.int x1)] [] h Q := by
  refine wp_loc rfl rfl ?_
  refine wp_iconst (v := 0) rfl (by decide) ?_
  refine wp_putI rfl rfl (Or.inl rfl) rfl (fun h9 => by cases h9) k0 ?_
  refine wp_loc rfl rfl ?_
  refine wp_iconst (v := 0) rfl (by decide) ?_
  refine wp_putI rfl rfl (Or.inl rfl) rfl (fun h9 => by cases h9) k0 ?_
  refine wp_loc rfl rfl ?_
  refine wp_iconst (v := 0) rfl (by decide) ?_
  refine wp_putI rfl rfl (Or.inl rfl) rfl (fun h9 => by cases h9) k0 ?_
  refine wp_loc rfl rfl ?_
  refine wp_iconst (v := 0) rfl (by decide) ?_
  refine wp_putI rfl rfl (Or.inl rfl) rfl (fun h9 => by cases h9) k0 ?_
  refine wp_loc rfl rfl ?_
  refine wp_iconst (v := 0) rfl (by decide) ?_
  refine wp_putI rfl rfl (Or.inl rfl) rfl (fun h9 => by cases h9) k0 ?_
  refine wp_loc rfl rfl ?_
  refine wp_iconst (v := 0) rfl (by decide) ?_
  refine wp_putI rfl rfl (Or.inl rfl) rfl (fun h9 => by cases h9) k0 ?_
  refine wp_loc rfl rfl ?_
  refine wp_iconst (v := 0) rfl (by decide) ?_
  refine wp_putI rfl rfl (Or.inl rfl) rfl (fun h9 => by cases h9) k0 ?_
  refine wp_loc rfl rfl ?_
  refine wp_iconst (v := 0) rfl (by decide) ?_
  refine wp_putI rfl rfl (Or.inl rfl) rfl (fun h9 => by cases h9) k0 ?_
  refine wp_loc rfl rfl ?_
  refine wp_sipush (v := 1300) rfl (by decide) ?_
  refine wp_putI rfl rfl (Or.inl rfl) rfl (fun h9 => by cases h9) k0 ?_
  refine wp_loc rfl rfl ?_
  refine wp_sipush (v := 1300) rfl (by decide) ?_
  refine wp_putI rfl rfl (Or.inl rfl) rfl (fun h9 => by cases h9) k0 ?_
  refine wp_loc rfl rfl ?_
  refine wp_iconst (v := 0) rfl (by decide) ?_
  refine wp_putI rfl rfl (Or.inl rfl) rfl (fun h9 => by cases h9) k0 ?_
  exact w
set_option maxRecDepth 20000 in
theorem b260_104 {n : Nat} {h : q_Hp} {Q : Option Value → q_Hp → Prop} {x0 : Nat} {x1 : Int32} (k0 : q_ok h x0 12) (wt : ¬ (qI h x0 13) = 0 → q_wp n 260 191 [some (.ref x0), some (.int x1)] [] h Q) (wf : (qI h x0 13) = 0 → q_wp n 260 111 [some (.ref x0), some (.int x1)] [] h Q) : q_wp n 260 104 [some (.ref x0), some (.int x1)] [] h Q := by
  refine wp_loc rfl rfl ?_
  refine wp_getI rfl rfl rfl k0 ?_
  exact wp_ifne (tgt := 191) rfl (by decide) wt wf
set_option maxRecDepth 20000 in
theorem b260_111 {n : Nat} {h : q_Hp} {Q : Option Value → q_Hp → Prop} {x0 : Nat} {x1 : Int32} {m : Nat} {P : Int32 → q_Hp → Prop} (hc : q_mI m 249 [.ref x0, .int 0] h P) (hm : m ≤ n) (w : ∀ (z : Int32) (h1 : q_Hp), P z h1 → q_wp (n + 1) 260 116 [some (.ref x0), some (.int x1)] [.int z] h1 Q) : q_wp (n + 1) 260 111 [some (.ref x0), some (.int x1)] [] h Q := by
  refine wp_loc rfl rfl ?_
  refine wp_iconst (v := 0) rfl (by decide) ?_
  exact wp_callI (av := [.ref x0, .int 0]) rfl rfl rfl (by decide) rfl rfl rfl hm hc w
set_option maxRecDepth 20000 in
theorem b260_116 {n : Nat} {h : q_Hp} {Q : Option Value → q_Hp → Prop} {x0 : Nat} {x1 : Int32} {s0 : Int32} (wt : ¬ s0 = 0 → q_wp n 260 191 [some (.ref x0), some (.int x1)] [] h Q) (wf : s0 = 0 → q_wp n 260 119 [some (.ref x0), some (.int x1)] [] h Q) : q_wp n 260 116 [some (.ref x0), some (.int x1)] [.int s0] h Q := by
  exact wp_ifne (tgt := 191) rfl (by decide) wt wf
set_option maxRecDepth 20000 in
theorem b260_119 {n : Nat} {h : q_Hp} {Q : Option Value → q_Hp → Prop} {x0 : Nat} {x1 : Int32} {m : Nat} {P : Int32 → q_Hp → Prop} (hc : q_mI m 249 [.ref x0, .int 20] h P) (hm : m ≤ n) (w : ∀ (z : Int32) (h1 : q_Hp), P z h1 → q_wp (n + 1) 260 125 [some (.ref x0), some (.int x1)] [.int z] h1 Q) : q_wp (n + 1) 260 119 [some (.ref x0), some (.int x1)] [] h Q := by
  refine wp_loc rfl rfl ?_
  refine wp_bipush (v := 20) rfl (by decide) ?_
  exact wp_callI (av := [.ref x0, .int 20]) rfl rfl rfl (by decide) rfl rfl rfl hm hc w
set_option maxRecDepth 20000 in
theorem b260_125 {n : Nat} {h : q_Hp} {Q : Option Value → q_Hp → Prop} {x0 : Nat} {x1 : Int32} {s0 : Int32} (wt : s0 = 0 → q_wp n 260 135 [some (.ref x0), some (.int x1)] [] h Q) (wf : ¬ s0 = 0 → q_wp n 260 128 [some (.ref x0), some (.int x1)] [] h Q) : q_wp n 260 125 [some (.ref x0), some (.int x1)] [.int s0] h Q := by
  exact wp_ifeq (tgt := 135) rfl (by decide) wt wf
set_option maxRecDepth 20000 in
theorem b260_128 {n : Nat} {h : q_Hp} {Q : Option Value → q_Hp → Prop} {x0 : Nat} {x1 : Int32} {m : Nat} {P : q_Hp → Prop} (hc : q_mV m 262 [.ref x0] h P) (hm : m ≤ n) (w : ∀ h1 : q_Hp, P h1 → q_wp (n + 1) 260 132 [some (.ref x0), some (.int x1)] [] h1 Q) : q_wp (n + 1) 260 128 [some (.ref x0), some (.int x1)] [] h Q := by
  refine wp_loc rfl rfl ?_
  exact wp_callV (av := [.ref x0]) rfl rfl rfl (by decide) rfl rfl rfl hm hc w
set_option maxRecDepth 20000 in
theorem b260_132 {n : Nat} {h : q_Hp} {Q : Option Value → q_Hp → Prop} {x0 : Nat} {x1 : Int32} (w : q_wp n 260 104 [some (.ref x0), some (.int x1)] [] h Q) : q_wp n 260 132 [some (.ref x0), some (.int x1)] [] h Q := by
  refine wp_goto (tgt := 104) rfl (by decide) ?_
  exact w
set_option maxRecDepth 20000 in
theorem b260_135 {n : Nat} {h : q_Hp} {Q : Option Value → q_Hp → Prop} {x0 : Nat} {x1 : Int32} {m : Nat} {P : Int32 → q_Hp → Prop} (hc : q_mI m 249 [.ref x0, .int 22] h P) (hm : m ≤ n) (w : ∀ (z : Int32) (h1 : q_Hp), P z h1 → q_wp (n + 1) 260 141 [some (.ref x0), some (.int x1)] [.int z] h1 Q) : q_wp (n + 1) 260 135 [some (.ref x0), some (.int x1)] [] h Q := by
  refine wp_loc rfl rfl ?_
  refine wp_bipush (v := 22) rfl (by decide) ?_
  exact wp_callI (av := [.ref x0, .int 22]) rfl rfl rfl (by decide) rfl rfl rfl hm hc w
set_option maxRecDepth 20000 in
theorem b260_141 {n : Nat} {h : q_Hp} {Q : Option Value → q_Hp → Prop} {x0 : Nat} {x1 : Int32} {s0 : Int32} (wt : s0 = 0 → q_wp n 260 151 [some (.ref x0), some (.int x1)] [] h Q) (wf : ¬ s0 = 0 → q_wp n 260 144 [some (.ref x0), some (.int x1)] [] h Q) : q_wp n 260 141 [some (.ref x0), some (.int x1)] [.int s0] h Q := by
  exact wp_ifeq (tgt := 151) rfl (by decide) wt wf
set_option maxRecDepth 20000 in
theorem b260_144 {n : Nat} {h : q_Hp} {Q : Option Value → q_Hp → Prop} {x0 : Nat} {x1 : Int32} {m : Nat} {P : q_Hp → Prop} (hc : q_mV m 263 [.ref x0] h P) (hm : m ≤ n) (w : ∀ h1 : q_Hp, P h1 → q_wp (n + 1) 260 148 [some (.ref x0), some (.int x1)] [] h1 Q) : q_wp (n + 1) 260 144 [some (.ref x0), some (.int x1)] [] h Q := by
  refine wp_loc rfl rfl ?_
  exact wp_callV (av := [.ref x0]) rfl rfl rfl (by decide) rfl rfl rfl hm hc w
set_option maxRecDepth 20000 in
theorem b260_148 {n : Nat} {h : q_Hp} {Q : Option Value → q_Hp → Prop} {x0 : Nat} {x1 : Int32} (w : q_wp n 260 104 [some (.ref x0), some (.int x1)] [] h Q) : q_wp n 260 148 [some (.ref x0), some (.int x1)] [] h Q := by
  refine wp_goto (tgt := 104) rfl (by decide) ?_
  exact w
set_option maxRecDepth 20000 in
theorem b260_151 {n : Nat} {h : q_Hp} {Q : Option Value → q_Hp → Prop} {x0 : Nat} {x1 : Int32} {m : Nat} {P : Int32 → q_Hp → Prop} (hc : q_mI m 249 [.ref x0, .int 23] h P) (hm : m ≤ n) (w : ∀ (z : Int32) (h1 : q_Hp), P z h1 → q_wp (n + 1) 260 157 [some (.ref x0), some (.int x1)] [.int z] h1 Q) : q_wp (n + 1) 260 151 [some (.ref x0), some (.int x1)] [] h Q := by
  refine wp_loc rfl rfl ?_
  refine wp_bipush (v := 23) rfl (by decide) ?_
  exact wp_callI (av := [.ref x0, .int 23]) rfl rfl rfl (by decide) rfl rfl rfl hm hc w
set_option maxRecDepth 20000 in
theorem b260_157 {n : Nat} {h : q_Hp} {Q : Option Value → q_Hp → Prop} {x0 : Nat} {x1 : Int32} {s0 : Int32} (wt : s0 = 0 → q_wp n 260 167 [some (.ref x0), some (.int x1)] [] h Q) (wf : ¬ s0 = 0 → q_wp n 260 160 [some (.ref x0), some (.int x1)] [] h Q) : q_wp n 260 157 [some (.ref x0), some (.int x1)] [.int s0] h Q := by
  exact wp_ifeq (tgt := 167) rfl (by decide) wt wf
set_option maxRecDepth 20000 in
theorem b260_160 {n : Nat} {h : q_Hp} {Q : Option Value → q_Hp → Prop} {x0 : Nat} {x1 : Int32} {m : Nat} {P : q_Hp → Prop} (hc : q_mV m 265 [.ref x0] h P) (hm : m ≤ n) (w : ∀ h1 : q_Hp, P h1 → q_wp (n + 1) 260 164 [some (.ref x0), some (.int x1)] [] h1 Q) : q_wp (n + 1) 260 160 [some (.ref x0), some (.int x1)] [] h Q := by
  refine wp_loc rfl rfl ?_
  exact wp_callV (av := [.ref x0]) rfl rfl rfl (by decide) rfl rfl rfl hm hc w
set_option maxRecDepth 20000 in
theorem b260_164 {n : Nat} {h : q_Hp} {Q : Option Value → q_Hp → Prop} {x0 : Nat} {x1 : Int32} (w : q_wp n 260 104 [some (.ref x0), some (.int x1)] [] h Q) : q_wp n 260 164 [some (.ref x0), some (.int x1)] [] h Q := by
  refine wp_goto (tgt := 104) rfl (by decide) ?_
  exact w
set_option maxRecDepth 20000 in
theorem b260_167 {n : Nat} {h : q_Hp} {Q : Option Value → q_Hp → Prop} {x0 : Nat} {x1 : Int32} {m : Nat} {P : Int32 → q_Hp → Prop} (hc : q_mI m 249 [.ref x0, .int 24] h P) (hm : m ≤ n) (w : ∀ (z : Int32) (h1 : q_Hp), P z h1 → q_wp (n + 1) 260 173 [some (.ref x0), some (.int x1)] [.int z] h1 Q) : q_wp (n + 1) 260 167 [some (.ref x0), some (.int x1)] [] h Q := by
  refine wp_loc rfl rfl ?_
  refine wp_bipush (v := 24) rfl (by decide) ?_
  exact wp_callI (av := [.ref x0, .int 24]) rfl rfl rfl (by decide) rfl rfl rfl hm hc w
set_option maxRecDepth 20000 in
theorem b260_173 {n : Nat} {h : q_Hp} {Q : Option Value → q_Hp → Prop} {x0 : Nat} {x1 : Int32} {s0 : Int32} (wt : s0 = 0 → q_wp n 260 183 [some (.ref x0), some (.int x1)] [] h Q) (wf : ¬ s0 = 0 → q_wp n 260 176 [some (.ref x0), some (.int x1)] [] h Q) : q_wp n 260 173 [some (.ref x0), some (.int x1)] [.int s0] h Q := by
  exact wp_ifeq (tgt := 183) rfl (by decide) wt wf
set_option maxRecDepth 20000 in
theorem b260_176 {n : Nat} {h : q_Hp} {Q : Option Value → q_Hp → Prop} {x0 : Nat} {x1 : Int32} {m : Nat} {P : q_Hp → Prop} (hc : q_mV m 286 [.ref x0] h P) (hm : m ≤ n) (w : ∀ h1 : q_Hp, P h1 → q_wp (n + 1) 260 180 [some (.ref x0), some (.int x1)] [] h1 Q) : q_wp (n + 1) 260 176 [some (.ref x0), some (.int x1)] [] h Q := by
  refine wp_loc rfl rfl ?_
  exact wp_callV (av := [.ref x0]) rfl rfl rfl (by decide) rfl rfl rfl hm hc w
set_option maxRecDepth 20000 in
theorem b260_180 {n : Nat} {h : q_Hp} {Q : Option Value → q_Hp → Prop} {x0 : Nat} {x1 : Int32} (w : q_wp n 260 104 [some (.ref x0), some (.int x1)] [] h Q) : q_wp n 260 180 [some (.ref x0), some (.int x1)] [] h Q := by
  refine wp_goto (tgt := 104) rfl (by decide) ?_
  exact w
set_option maxRecDepth 20000 in
theorem b260_183 {n : Nat} {h : q_Hp} {Q : Option Value → q_Hp → Prop} {x0 : Nat} {x1 : Int32} {m : Nat} {P : q_Hp → Prop} (hc : q_mV m 250 [.ref x0, .int 1] h P) (hm : m ≤ n) (w : ∀ h1 : q_Hp, P h1 → q_wp (n + 1) 260 188 [some (.ref x0), some (.int x1)] [] h1 Q) : q_wp (n + 1) 260 183 [some (.ref x0), some (.int x1)] [] h Q := by
  refine wp_loc rfl rfl ?_
  refine wp_iconst (v := 1) rfl (by decide) ?_
  exact wp_callV (av := [.ref x0, .int 1]) rfl rfl rfl (by decide) rfl rfl rfl hm hc w
set_option maxRecDepth 20000 in
theorem b260_188 {n : Nat} {h : q_Hp} {Q : Option Value → q_Hp → Prop} {x0 : Nat} {x1 : Int32} (w : q_wp n 260 104 [some (.ref x0), some (.int x1)] [] h Q) : q_wp n 260 188 [some (.ref x0), some (.int x1)] [] h Q := by
  refine wp_goto (tgt := 104) rfl (by decide) ?_
  exact w
set_option maxRecDepth 20000 in
theorem b260_191 {n : Nat} {h : q_Hp} {Q : Option Value → q_Hp → Prop} {x0 : Nat} {x1 : Int32} (k0 : q_ok h x0 12) (wt : (qI (q_sI h x0 17 (-1)) x0 13) ≤ 0 → q_wp n 260 216 [some (.ref x0), some (.int x1)] [] (q_sI h x0 17 (-1)) Q) (wf : ¬ (qI (q_sI h x0 17 (-1)) x0 13) ≤ 0 → q_wp n 260 203 [some (.ref x0), some (.int x1)] [] (q_sI h x0 17 (-1)) Q) : q_wp n 260 191 [some (.ref x0), some (.int x1)] [] h Q := by
  refine wp_loc rfl rfl ?_
  refine wp_iconst (v := (-1)) rfl (by decide) ?_
  refine wp_putI rfl rfl (Or.inl rfl) rfl (fun h9 => by cases h9) k0 ?_
  refine wp_loc rfl rfl ?_
  refine wp_getI rfl rfl rfl k0 ?_
  exact wp_ifle (tgt := 216) rfl (by decide) wt wf
set_option maxRecDepth 20000 in
theorem b260_203 {n : Nat} {h : q_Hp} {Q : Option Value → q_Hp → Prop} {x0 : Nat} {x1 : Int32} (k0 : q_ok h x0 12) (q : Q (some (.int (qI (q_sI h x0 17 (qI h x0 14)) x0 13))) (q_sI h x0 17 (qI h x0 14))) : q_wp n 260 203 [some (.ref x0), some (.int x1)] [] h Q := by
  refine wp_loc rfl rfl ?_
  refine wp_loc rfl rfl ?_
  refine wp_getI rfl rfl rfl k0 ?_
  refine wp_putI rfl rfl (Or.inl rfl) rfl (fun h9 => by cases h9) k0 ?_
  refine wp_loc rfl rfl ?_
  refine wp_getI rfl rfl rfl k0 ?_
  exact wp_ret rfl rfl q
set_option maxRecDepth 20000 in
theorem b260_216 {n : Nat} {h : q_Hp} {Q : Option Value → q_Hp → Prop} {x0 : Nat} {x1 : Int32} (w : q_wp n 260 218 [some (.ref x0), some (.int 0)] [] h Q) : q_wp n 260 216 [some (.ref x0), some (.int x1)] [] h Q := by
  refine wp_iconst (v := 0) rfl (by decide) ?_
  refine wp_loc rfl rfl ?_
  exact w
set_option maxRecDepth 20000 in
theorem b260_218 {n : Nat} {h : q_Hp} {Q : Option Value → q_Hp → Prop} {x0 : Nat} {x1 : Int32} (k0 : q_ok h x0 12) (wt : (qI h x0 84) ≤ x1 → q_wp n 260 237 [some (.ref x0), some (.int x1)] [] h Q) (wf : ¬ (qI h x0 84) ≤ x1 → q_wp n 260 226 [some (.ref x0), some (.int x1)] [] h Q) : q_wp n 260 218 [some (.ref x0), some (.int x1)] [] h Q := by
  refine wp_loc rfl rfl ?_
  refine wp_loc rfl rfl ?_
  refine wp_getI rfl rfl rfl k0 ?_
  exact wp_icge (tgt := 237) rfl (by decide) wt wf
set_option maxRecDepth 20000 in
theorem b260_226 {n : Nat} {h : q_Hp} {Q : Option Value → q_Hp → Prop} {x0 : Nat} {x1 : Int32} {m : Nat} {P : q_Hp → Prop} (hc : q_mV m 288 [.ref x0, .int x1] h P) (hm : m ≤ n) (w : ∀ h1 : q_Hp, P h1 → q_wp (n + 1) 260 231 [some (.ref x0), some (.int x1)] [] h1 Q) : q_wp (n + 1) 260 226 [some (.ref x0), some (.int x1)] [] h Q := by
  refine wp_loc rfl rfl ?_
  refine wp_loc rfl rfl ?_
  exact wp_callV (av := [.ref x0, .int x1]) rfl rfl rfl (by decide) rfl rfl rfl hm hc w
set_option maxRecDepth 20000 in
theorem b260_231 {n : Nat} {h : q_Hp} {Q : Option Value → q_Hp → Prop} {x0 : Nat} {x1 : Int32} (w : q_wp n 260 218 [some (.ref x0), some (.int (x1 + 1))] [] h Q) : q_wp n 260 231 [some (.ref x0), some (.int x1)] [] h Q := by
  refine wp_iinc (v := 1) rfl rfl (by decide) rfl ?_
  refine wp_goto (tgt := 218) rfl (by decide) ?_
  exact w
set_option maxRecDepth 20000 in
theorem b260_237 {n : Nat} {h : q_Hp} {Q : Option Value → q_Hp → Prop} {x0 : Nat} {x1 : Int32} (k0 : q_ok h x0 12) (wt : (qI h x0 15) ≤ 0 → q_wp n 260 257 [some (.ref x0), some (.int x1)] [] h Q) (wf : ¬ (qI h x0 15) ≤ 0 → q_wp n 260 244 [some (.ref x0), some (.int x1)] [] h Q) : q_wp n 260 237 [some (.ref x0), some (.int x1)] [] h Q := by
  refine wp_loc rfl rfl ?_
  refine wp_getI rfl rfl rfl k0 ?_
  exact wp_ifle (tgt := 257) rfl (by decide) wt wf
set_option maxRecDepth 20000 in
theorem b260_244 {n : Nat} {h : q_Hp} {Q : Option Value → q_Hp → Prop} {x0 : Nat} {x1 : Int32} (k0 : q_ok h x0 12) (q : Q (some (.int (qI (q_sI h x0 17 (qI h x0 16)) x0 15))) (q_sI h x0 17 (qI h x0 16))) : q_wp n 260 244 [some (.ref x0), some (.int x1)] [] h Q := by
  refine wp_loc rfl rfl ?_
  refine wp_loc rfl rfl ?_
  refine wp_getI rfl rfl rfl k0 ?_
  refine wp_putI rfl rfl (Or.inl rfl) rfl (fun h9 => by cases h9) k0 ?_
  refine wp_loc rfl rfl ?_
  refine wp_getI rfl rfl rfl k0 ?_
  exact wp_ret rfl rfl q
set_option maxRecDepth 20000 in
theorem b260_257 {n : Nat} {h : q_Hp} {Q : Option Value → q_Hp → Prop} {x0 : Nat} {x1 : Int32} {m : Nat} {P : q_Hp → Prop} (hc : q_mV m 289 [.ref x0] h P) (hm : m ≤ n) (w : ∀ h1 : q_Hp, P h1 → q_wp (n + 1) 260 261 [some (.ref x0), some (.int x1)] [] h1 Q) : q_wp (n + 1) 260 257 [some (.ref x0), some (.int x1)] [] h Q := by
  refine wp_loc rfl rfl ?_
  exact wp_callV (av := [.ref x0]) rfl rfl rfl (by decide) rfl rfl rfl hm hc w
set_option maxRecDepth 20000 in
theorem b260_261 {n : Nat} {h : q_Hp} {Q : Option Value → q_Hp → Prop} {x0 : Nat} {x1 : Int32} {m : Nat} {P : q_Hp → Prop} (hc : q_mV m 291 [.ref x0] h P) (hm : m ≤ n) (w : ∀ h1 : q_Hp, P h1 → q_wp (n + 1) 260 265 [some (.ref x0), some (.int x1)] [] h1 Q) : q_wp (n + 1) 260 261 [some (.ref x0), some (.int x1)] [] h Q := by
  refine wp_loc rfl rfl ?_
  exact wp_callV (av := [.ref x0]) rfl rfl rfl (by decide) rfl rfl rfl hm hc w
set_option maxRecDepth 20000 in
theorem b260_265 {n : Nat} {h : q_Hp} {Q : Option Value → q_Hp → Prop} {x0 : Nat} {x1 : Int32} (q : Q (some (.int 0)) h) : q_wp n 260 265 [some (.ref x0), some (.int x1)] [] h Q := by
  refine wp_iconst (v := 0) rfl (by decide) ?_
  exact wp_ret rfl rfl q
theorem b261_0 {n : Nat} {h : q_Hp} {Q : Option Value → q_Hp → Prop} {x0 : Nat} (k0 : q_ok h x0 12) (q : Q (some (.int (qI h x0 17))) h) : q_wp n 261 0 [some (.ref x0)] [] h Q := by
  refine wp_loc rfl rfl ?_
  refine wp_getI rfl rfl rfl k0 ?_
  exact wp_ret rfl rfl q
theorem b262_0 {n : Nat} {h : q_Hp} {Q : Option Value → q_Hp → Prop} {x0 : Nat} {m : Nat} {P : q_Hp → Prop} (hc : q_mV m 252 [.ref x0] h P) (hm : m ≤ n) (w : ∀ h1 : q_Hp, P h1 → q_wp (n + 1) 262 4 [some (.ref x0), none, none, none] [] h1 Q) : q_wp (n + 1) 262 0 [some (.ref x0), none, none, none] [] h Q := by
  refine wp_loc rfl rfl ?_
  exact wp_callV (av := [.ref x0]) rfl rfl rfl (by decide) rfl rfl rfl hm hc w
theorem b262_4 {n : Nat} {h : q_Hp} {Q : Option Value → q_Hp → Prop} {x0 : Nat} (k0 : q_ok h x0 12) {m : Nat} {P : Int32 → q_Hp → Prop} (hc : q_mI m 249 [.ref x0, .int 1] h P) (hm : m ≤ n) (w : ∀ (z : Int32) (h1 : q_Hp), P z h1 → q_wp (n + 1) 262 14 [some (.ref x0), some (.int (qI h x0 11)), none, none] [.int z] h1 Q) : q_wp (n + 1) 262 4 [some (.ref x0), none, none, none] [] h Q := by
  refine wp_loc rfl rfl ?_
  refine wp_getI rfl rfl rfl k0 ?_
  refine wp_loc rfl rfl ?_
  refine wp_loc rfl rfl ?_
  refine wp_iconst (v := 1) rfl (by decide) ?_
  exact wp_callI (av := [.ref x0, .int 1]) rfl rfl rfl (by decide) rfl rfl rfl hm hc w
theorem b262_14 {n : Nat} {h : q_Hp} {Q : Option Value → q_Hp → Prop} {x0 : Nat} {x1 : Int32} {s0 : Int32} (wt : s0 = 0 → q_wp n 262 31 [some (.ref x0), some (.int x1), none, none] [] h Q) (wf : ¬ s0 = 0 → q_wp n 262 17 [some (.ref x0), some (.int x1), none, none] [] h Q) : q_wp n 262 14 [some (.ref x0), some (.int x1), none, none] [.int s0] h Q := by
  exact wp_ifeq (tgt := 31) rfl (by decide) wt wf
theorem b262_17 {n : Nat} {h : q_Hp} {Q : Option Value → q_Hp → Prop} {x0 : Nat} {x1 : Int32} (k0 : q_ok h x0 12) (wt : ¬ (qI h x0 18) = 12 → q_wp n 262 31 [some (.ref x0), some (.int x1), none, none] [] h Q) (wf : (qI h x0 18) = 12 → q_wp n 262 26 [some (.ref x0), some (.int x1), none, none] [] h Q) : q_wp n 262 17 [some (.ref x0), some (.int x1), none, none] [] h Q := by
  refine wp_loc rfl rfl ?_
  refine wp_getI rfl rfl rfl k0 ?_
  refine wp_bipush (v := 12) rfl (by decide) ?_
  exact wp_icne (tgt := 31) rfl (by decide) wt wf
theorem b262_26 {n : Nat} {h : q_Hp} {Q : Option Value → q_Hp → Prop} {x0 : Nat} {x1 : Int32} {m : Nat} {P : q_Hp → Prop} (hc : q_mV m 250 [.ref x0, .int 2] h P) (hm : m ≤ n) (w : ∀ h1 : q_Hp, P h1 → q_wp (n + 1) 262 31 [some (.ref x0), some (.int x1), none, none] [] h1 Q) : q_wp (n + 1) 262 26 [some (.ref x0), some (.int x1), none, none] [] h Q := by
  refine wp_loc rfl rfl ?_
  refine wp_iconst (v := 2) rfl (by decide) ?_
  exact wp_callV (av := [.ref x0, .int 2]) rfl rfl rfl (by decide) rfl rfl rfl hm hc w
theorem b262_31 {n : Nat} {h : q_Hp} {Q : Option Value → q_Hp → Prop} {x0 : Nat} {x1 : Int32} {m : Nat} {P : q_Hp → Prop} (hc : q_mV m 253 [.ref x0, .int 1] h P) (hm : m ≤ n) (w : ∀ h1 : q_Hp, P h1 → q_wp (n + 1) 262 36 [some (.ref x0), some (.int x1), none, none] [] h1 Q) : q_wp (n + 1) 262 31 [some (.ref x0), some (.int x1), none, none] [] h Q := by
  refine wp_loc rfl rfl ?_
  refine wp_iconst (v := 1) rfl (by decide) ?_
  exact wp_callV (av := [.ref x0, .int 1]) rfl rfl rfl (by decide) rfl rfl rfl hm hc w
theorem b262_36 {n : Nat} {h : q_Hp} {Q : Option Value → q_Hp → Prop} {x0 : Nat} {x1 : Int32} (k0 : q_ok h x0 12) (wt : ¬ (qI h x0 13) = 0 → q_wp n 262 96 [some (.ref x0), some (.int x1), some (.int (qI h x0 18)), none] [] h Q) (wf : (qI h x0 13) = 0 → q_wp n 262 48 [some (.ref x0), some (.int x1), some (.int (qI h x0 18)), none] [] h Q) : q_wp n 262 36 [some (.ref x0), some (.int x1), none, none] [] h Q := by
  refine wp_loc rfl rfl ?_
  refine wp_getI rfl rfl rfl k0 ?_
  refine wp_loc rfl rfl ?_
  refine wp_loc rfl rfl ?_
  refine wp_getI rfl rfl rfl k0 ?_
  exact wp_ifne (tgt := 96) rfl (by decide) wt wf
theorem b262_48 {n : Nat} {h : q_Hp} {Q : Option Value → q_Hp → Prop} {x0 : Nat} {x1 : Int32} {x2 : Int32} (w : q_wp n 262 50 [some (.ref x0), some (.int x1), some (.int x2), some (.int 0)] [] h Q) : q_wp n 262 48 [some (.ref x0), some (.int x1), some (.int x2), none] [] h Q := by
  refine wp_iconst (v := 0) rfl (by decide) ?_
  refine wp_loc rfl rfl ?_
  exact w
theorem b262_50 {n : Nat} {h : q_Hp} {Q : Option Value → q_Hp → Prop} {x0 : Nat} {x1 : Int32} {x2 : Int32} {x3 : Int32} (k0 : q_ok h x0 12) (wt : (qI h x0 18) ≤ x3 → q_wp n 262 86 [some (.ref x0), some (.int x1), some (.int x2), some (.int x3)] [] h Q) (wf : ¬ (qI h x0 18) ≤ x3 → q_wp n 262 58 [some (.ref x0), some (.int x1), some (.int x2), some (.int x3)] [] h Q) : q_wp n 262 50 [some (.ref x0), some (.int x1), some (.int x2), some (.int x3)] [] h Q := by
  refine wp_loc rfl rfl ?_
  refine wp_loc rfl rfl ?_
  refine wp_getI rfl rfl rfl k0 ?_
  exact wp_icge (tgt := 86) rfl (by decide) wt wf
theorem b262_58 {n : Nat} {h : q_Hp} {Q : Option Value → q_Hp → Prop} {x0 : Nat} {x1 : Int32} {x2 : Int32} {x3 : Int32} {v0 : Nat} {v1 : Nat} (k0 : q_ok h x0 12) (e0 : qR h x0 64 = v0) (k1 : q_ok h v0 21) (i0 : q_in x3 (qK h v0).2) (e1 : qR h x0 8 = v1) (k2 : q_ok h v1 21) (i1 : q_in x1 (qK h v1).2) (wt : ¬ (lg_cmp (qL h v0 x3.toNatClampNeg) (qL h v1 x1.toNatClampNeg)) = 0 → q_wp n 262 80 [some (.ref x0), some (.int x1), some (.int x2), some (.int x3)] [] h Q) (wf : (lg_cmp (qL h v0 x3.toNatClampNeg) (qL h v1 x1.toNatClampNeg)) = 0 → q_wp n 262 74 [some (.ref x0), some (.int x1), some (.int x2), some (.int x3)] [] h Q) : q_wp n 262 58 [some (.ref x0), some (.int x1), some (.int x2), some (.int x3)] [] h Q := by
  refine wp_loc rfl rfl ?_
  refine wp_getR rfl rfl rfl rfl k0 e0 ?_
  refine wp_loc rfl rfl ?_
  refine wp_lald rfl k1 i0 ?_
  refine wp_loc rfl rfl ?_
  refine wp_getR rfl rfl rfl rfl k0 e1 ?_
  refine wp_loc rfl rfl ?_
  refine wp_lald rfl k2 i1 ?_
  refine wp_stk rfl rfl rfl ?_
  exact wp_ifne (tgt := 80) rfl (by decide) wt wf
theorem b262_74 {n : Nat} {h : q_Hp} {Q : Option Value → q_Hp → Prop} {x0 : Nat} {x1 : Int32} {x2 : Int32} {x3 : Int32} {m : Nat} {P : q_Hp → Prop} (hc : q_mV m 251 [.ref x0, .int 3, .int x1] h P) (hm : m ≤ n) (w : ∀ h1 : q_Hp, P h1 → q_wp (n + 1) 262 80 [some (.ref x0), some (.int x1), some (.int x2), some (.int x3)] [] h1 Q) : q_wp (n + 1) 262 74 [some (.ref x0), some (.int x1), some (.int x2), some (.int x3)] [] h Q := by
  refine wp_loc rfl rfl ?_
  refine wp_iconst (v := 3) rfl (by decide) ?_
  refine wp_loc rfl rfl ?_
  exact wp_callV (av := [.ref x0, .int 3, .int x1]) rfl rfl rfl (by decide) rfl rfl rfl hm hc w
theorem b262_80 {n : Nat} {h : q_Hp} {Q : Option Value → q_Hp → Prop} {x0 : Nat} {x1 : Int32} {x2 : Int32} {x3 : Int32} (w : q_wp n 262 50 [some (.ref x0), some (.int x1), some (.int x2), some (.int (x3 + 1))] [] h Q) : q_wp n 262 80 [some (.ref x0), some (.int x1), some (.int x2), some (.int x3)] [] h Q := by
  refine wp_iinc (v := 1) rfl rfl (by decide) rfl ?_
  refine wp_goto (tgt := 50) rfl (by decide) ?_
  exact w
theorem b262_86 {n : Nat} {h : q_Hp} {Q : Option Value → q_Hp → Prop} {x0 : Nat} {x1 : Int32} {x2 : Int32} {x3 : Int32} {v0 : Nat} (k0 : q_ok h x0 12) (e0 : qR h x0 28 = v0) (k1 : q_ok h v0 20) (i0 : q_in (12 + x2) (qK h v0).2) (w : q_wp n 262 96 [some (.ref x0), some (.int x1), some (.int x2), some (.int x3)] [] (q_sA h v0 ((12 + x2 : Int32).toNatClampNeg) (-1)) Q) : q_wp n 262 86 [some (.ref x0), some (.int x1), some (.int x2), some (.int x3)] [] h Q := by
  refine wp_loc rfl rfl ?_
  refine wp_getR rfl rfl rfl rfl k0 e0 ?_
  refine wp_bipush (v := 12) rfl (by decide) ?_
  refine wp_loc rfl rfl ?_
  refine wp_stk rfl rfl rfl ?_
  refine wp_iconst (v := (-1)) rfl (by decide) ?_
  refine wp_iast rfl k1 i0 ?_
  exact w
theorem b262_96 {n : Nat} {h : q_Hp} {Q : Option Value → q_Hp → Prop} {x0 : Nat} {x1 : Int32} {x2 : Int32} {l3 : Option Value} {m : Nat} {P : Int32 → q_Hp → Prop} (hc : q_mI m 249 [.ref x0, .int 21] h P) (hm : m ≤ n) (w : ∀ (z : Int32) (h1 : q_Hp), P z h1 → q_wp (n + 1) 262 102 [some (.ref x0), some (.int x1), some (.int x2), l3] [.int z] h1 Q) : q_wp (n + 1) 262 96 [some (.ref x0), some (.int x1), some (.int x2), l3] [] h Q := by
  refine wp_loc rfl rfl ?_
  refine wp_bipush (v := 21) rfl (by decide) ?_
  exact wp_callI (av := [.ref x0, .int 21]) rfl rfl rfl (by decide) rfl rfl rfl hm hc w
theorem b262_102 {n : Nat} {h : q_Hp} {Q : Option Value → q_Hp → Prop} {x0 : Nat} {x1 : Int32} {x2 : Int32} {l3 : Option Value} {s0 : Int32} (wt : s0 = 0 → q_wp n 262 140 [some (.ref x0), some (.int x1), some (.int x2), l3] [] h Q) (wf : ¬ s0 = 0 → q_wp n 262 105 [some (.ref x0), some (.int x1), some (.int x2), l3] [] h Q) : q_wp n 262 102 [some (.ref x0), some (.int x1), some (.int x2), l3] [.int s0] h Q := by
  exact wp_ifeq (tgt := 140) rfl (by decide) wt wf
theorem b262_105 {n : Nat} {h : q_Hp} {Q : Option Value → q_Hp → Prop} {x0 : Nat} {x1 : Int32} {x2 : Int32} {l3 : Option Value} {m : Nat} {P : q_Hp → Prop} (hc : q_mV m 252 [.ref x0] h P) (hm : m ≤ n) (w : ∀ h1 : q_Hp, P h1 → q_wp (n + 1) 262 109 [some (.ref x0), some (.int x1), some (.int x2), l3] [] h1 Q) : q_wp (n + 1) 262 105 [some (.ref x0), some (.int x1), some (.int x2), l3] [] h Q := by
  refine wp_loc rfl rfl ?_
  exact wp_callV (av := [.ref x0]) rfl rfl rfl (by decide) rfl rfl rfl hm hc w
theorem b262_109 {n : Nat} {h : q_Hp} {Q : Option Value → q_Hp → Prop} {x0 : Nat} {x1 : Int32} {x2 : Int32} {l3 : Option Value} (k0 : q_ok h x0 12) {m : Nat} {P : q_Hp → Prop} (hc : q_mV m 253 [.ref x0, .int 1] h P) (hm : m ≤ n) (w : ∀ h1 : q_Hp, P h1 → q_wp (n + 1) 262 119 [some (.ref x0), some (.int x1), some (.int x2), some (.int (qI h x0 11))] [] h1 Q) : q_wp (n + 1) 262 109 [some (.ref x0), some (.int x1), some (.int x2), l3] [] h Q := by
  refine wp_loc rfl rfl ?_
  refine wp_getI rfl rfl rfl k0 ?_
  refine wp_loc rfl rfl ?_
  refine wp_loc rfl rfl ?_
  refine wp_iconst (v := 1) rfl (by decide) ?_
  exact wp_callV (av := [.ref x0, .int 1]) rfl rfl rfl (by decide) rfl rfl rfl hm hc w
theorem b262_119 {n : Nat} {h : q_Hp} {Q : Option Value → q_Hp → Prop} {x0 : Nat} {x1 : Int32} {x2 : Int32} {x3 : Int32} (k0 : q_ok h x0 12) (wt : ¬ (qI h x0 13) = 0 → q_wp n 262 140 [some (.ref x0), some (.int x1), some (.int x2), some (.int x3)] [] h Q) (wf : (qI h x0 13) = 0 → q_wp n 262 126 [some (.ref x0), some (.int x1), some (.int x2), some (.int x3)] [] h Q) : q_wp n 262 119 [some (.ref x0), some (.int x1), some (.int x2), some (.int x3)] [] h Q := by
  refine wp_loc rfl rfl ?_
  refine wp_getI rfl rfl rfl k0 ?_
  exact wp_ifne (tgt := 140) rfl (by decide) wt wf
theorem b262_126 {n : Nat} {h : q_Hp} {Q : Option Value → q_Hp → Prop} {x0 : Nat} {x1 : Int32} {x2 : Int32} {x3 : Int32} {v0 : Nat} (k0 : q_ok h x0 12) (e0 : qR h x0 28 = v0) {m : Nat} {P : Int32 → q_Hp → Prop} (hc : q_mI m 255 [.ref x0, .int x3] h P) (hm : m ≤ n) (w : ∀ (z : Int32) (h1 : q_Hp), P z h1 → q_wp (n + 1) 262 139 [some (.ref x0), some (.int x1), some (.int x2), some (.int x3)] [.int z, .int (12 + x2), .ref v0] h1 Q) : q_wp (n + 1) 262 126 [some (.ref x0), some (.int x1), some (.int x2), some (.int x3)] [] h Q := by
  refine wp_loc rfl rfl ?_
  refine wp_getR rfl rfl rfl rfl k0 e0 ?_
  refine wp_bipush (v := 12) rfl (by decide) ?_
  refine wp_loc rfl rfl ?_
  refine wp_stk rfl rfl rfl ?_
  refine wp_loc rfl rfl ?_
  refine wp_loc rfl rfl ?_
  exact wp_callI (av := [.ref x0, .int x3]) rfl rfl rfl (by decide) rfl rfl rfl hm hc w
theorem b262_139 {n : Nat} {h : q_Hp} {Q : Option Value → q_Hp → Prop} {x0 : Nat} {x1 : Int32} {x2 : Int32} {x3 : Int32} {s0 : Int32} {s1 : Int32} {s2 : Nat} (k0 : q_ok h s2 20) (i0 : q_in s1 (qK h s2).2) (w : q_wp n 262 140 [some (.ref x0), some (.int x1), some (.int x2), some (.int x3)] [] (q_sA h s2 s1.toNatClampNeg s0) Q) : q_wp n 262 139 [some (.ref x0), some (.int x1), some (.int x2), some (.int x3)] [.int s0, .int s1, .ref s2] h Q := by
  refine wp_iast rfl k0 i0 ?_
  exact w
theorem b262_140 {n : Nat} {h : q_Hp} {Q : Option Value → q_Hp → Prop} {x0 : Nat} {x1 : Int32} {x2 : Int32} {l3 : Option Value} (k0 : q_ok h x0 12) (wt : ¬ (qI h x0 13) = 0 → q_wp n 262 169 [some (.ref x0), some (.int x1), some (.int x2), l3] [] h Q) (wf : (qI h x0 13) = 0 → q_wp n 262 147 [some (.ref x0), some (.int x1), some (.int x2), l3] [] h Q) : q_wp n 262 140 [some (.ref x0), some (.int x1), some (.int x2), l3] [] h Q := by
  refine wp_loc rfl rfl ?_
  refine wp_getI rfl rfl rfl k0 ?_
  exact wp_ifne (tgt := 169) rfl (by decide) wt wf
theorem b262_147 {n : Nat} {h : q_Hp} {Q : Option Value → q_Hp → Prop} {x0 : Nat} {x1 : Int32} {x2 : Int32} {l3 : Option Value} {v0 : Nat} {v1 : Nat} (k0 : q_ok h x0 12) (e0 : qR h x0 64 = v0) (e1 : qR h x0 8 = v1) (k1 : q_ok h v1 21) (i0 : q_in x1 (qK h v1).2) (k2 : q_ok h v0 21) (i1 : q_in x2 (qK h v0).2) (w : q_wp n 262 169 [some (.ref x0), some (.int x1), some (.int x2), l3] [] (q_sI (q_sL h v0 x2.toNatClampNeg (qL h v1 x1.toNatClampNeg)) x0 18 ((qI h x0 18) + 1)) Q) : q_wp n 262 147 [some (.ref x0), some (.int x1), some (.int x2), l3] [] h Q := by
  refine wp_loc rfl rfl ?_
  refine wp_getR rfl rfl rfl rfl k0 e0 ?_
  refine wp_loc rfl rfl ?_
  refine wp_loc rfl rfl ?_
  refine wp_getR rfl rfl rfl rfl k0 e1 ?_
  refine wp_loc rfl rfl ?_
  refine wp_lald rfl k1 i0 ?_
  refine wp_last rfl k2 i1 ?_
  refine wp_loc rfl rfl ?_
  refine wp_stk rfl rfl rfl ?_
  refine wp_getI rfl rfl rfl k0 ?_
  refine wp_iconst (v := 1) rfl (by decide) ?_
  refine wp_stk rfl rfl rfl ?_
  refine wp_putI rfl rfl (Or.inl rfl) rfl (fun h9 => by cases h9) k0 ?_
  exact w
theorem b262_169 {n : Nat} {h : q_Hp} {Q : Option Value → q_Hp → Prop} {x0 : Nat} {x1 : Int32} {x2 : Int32} {l3 : Option Value} {m : Nat} {P : q_Hp → Prop} (hc : q_mV m 253 [.ref x0, .int 4] h P) (hm : m ≤ n) (w : ∀ h1 : q_Hp, P h1 → q_wp (n + 1) 262 174 [some (.ref x0), some (.int x1), some (.int x2), l3] [] h1 Q) : q_wp (n + 1) 262 169 [some (.ref x0), some (.int x1), some (.int x2), l3] [] h Q := by
  refine wp_loc rfl rfl ?_
  refine wp_iconst (v := 4) rfl (by decide) ?_
  exact wp_callV (av := [.ref x0, .int 4]) rfl rfl rfl (by decide) rfl rfl rfl hm hc w
theorem b262_174 {n : Nat} {h : q_Hp} {Q : Option Value → q_Hp → Prop} {x0 : Nat} {x1 : Int32} {x2 : Int32} {l3 : Option Value} (q : Q none h) : q_wp n 262 174 [some (.ref x0), some (.int x1), some (.int x2), l3] [] h Q := by
  exact wp_ret rfl rfl q
theorem b263_0 {n : Nat} {h : q_Hp} {Q : Option Value → q_Hp → Prop} {x0 : Nat} {m : Nat} {P : q_Hp → Prop} (hc : q_mV m 252 [.ref x0] h P) (hm : m ≤ n) (w : ∀ h1 : q_Hp, P h1 → q_wp (n + 1) 263 4 [some (.ref x0), none, none, none, none] [] h1 Q) : q_wp (n + 1) 263 0 [some (.ref x0), none, none, none, none] [] h Q := by
  refine wp_loc rfl rfl ?_
  exact wp_callV (av := [.ref x0]) rfl rfl rfl (by decide) rfl rfl rfl hm hc w
theorem b263_4 {n : Nat} {h : q_Hp} {Q : Option Value → q_Hp → Prop} {x0 : Nat} (k0 : q_ok h x0 12) {m : Nat} {P : Int32 → q_Hp → Prop} (hc : q_mI m 249 [.ref x0, .int 1] h P) (hm : m ≤ n) (w : ∀ (z : Int32) (h1 : q_Hp), P z h1 → q_wp (n + 1) 263 14 [some (.ref x0), some (.int (qI h x0 11)), none, none, none] [.int z] h1 Q) : q_wp (n + 1) 263 4 [some (.ref x0), none, none, none, none] [] h Q := by
  refine wp_loc rfl rfl ?_
  refine wp_getI rfl rfl rfl k0 ?_
  refine wp_loc rfl rfl ?_
  refine wp_loc rfl rfl ?_
  refine wp_iconst (v := 1) rfl (by decide) ?_
  exact wp_callI (av := [.ref x0, .int 1]) rfl rfl rfl (by decide) rfl rfl rfl hm hc w
theorem b263_14 {n : Nat} {h : q_Hp} {Q : Option Value → q_Hp → Prop} {x0 : Nat} {x1 : Int32} {s0 : Int32} (wt : s0 = 0 → q_wp n 263 31 [some (.ref x0), some (.int x1), none, none, none] [] h Q) (wf : ¬ s0 = 0 → q_wp n 263 17 [some (.ref x0), some (.int x1), none, none, none] [] h Q) : q_wp n 263 14 [some (.ref x0), some (.int x1), none, none, none] [.int s0] h Q := by
  exact wp_ifeq (tgt := 31) rfl (by decide) wt wf
theorem b263_17 {n : Nat} {h : q_Hp} {Q : Option Value → q_Hp → Prop} {x0 : Nat} {x1 : Int32} (k0 : q_ok h x0 12) (wt : ¬ (qI h x0 19) = 12 → q_wp n 263 31 [some (.ref x0), some (.int x1), none, none, none] [] h Q) (wf : (qI h x0 19) = 12 → q_wp n 263 26 [some (.ref x0), some (.int x1), none, none, none] [] h Q) : q_wp n 263 17 [some (.ref x0), some (.int x1), none, none, none] [] h Q := by
  refine wp_loc rfl rfl ?_
  refine wp_getI rfl rfl rfl k0 ?_
  refine wp_bipush (v := 12) rfl (by decide) ?_
  exact wp_icne (tgt := 31) rfl (by decide) wt wf
theorem b263_26 {n : Nat} {h : q_Hp} {Q : Option Value → q_Hp → Prop} {x0 : Nat} {x1 : Int32} {m : Nat} {P : q_Hp → Prop} (hc : q_mV m 250 [.ref x0, .int 2] h P) (hm : m ≤ n) (w : ∀ h1 : q_Hp, P h1 → q_wp (n + 1) 263 31 [some (.ref x0), some (.int x1), none, none, none] [] h1 Q) : q_wp (n + 1) 263 26 [some (.ref x0), some (.int x1), none, none, none] [] h Q := by
  refine wp_loc rfl rfl ?_
  refine wp_iconst (v := 2) rfl (by decide) ?_
  exact wp_callV (av := [.ref x0, .int 2]) rfl rfl rfl (by decide) rfl rfl rfl hm hc w
theorem b263_31 {n : Nat} {h : q_Hp} {Q : Option Value → q_Hp → Prop} {x0 : Nat} {x1 : Int32} {m : Nat} {P : q_Hp → Prop} (hc : q_mV m 253 [.ref x0, .int 1] h P) (hm : m ≤ n) (w : ∀ h1 : q_Hp, P h1 → q_wp (n + 1) 263 36 [some (.ref x0), some (.int x1), none, none, none] [] h1 Q) : q_wp (n + 1) 263 31 [some (.ref x0), some (.int x1), none, none, none] [] h Q := by
  refine wp_loc rfl rfl ?_
  refine wp_iconst (v := 1) rfl (by decide) ?_
  exact wp_callV (av := [.ref x0, .int 1]) rfl rfl rfl (by decide) rfl rfl rfl hm hc w
theorem b263_36 {n : Nat} {h : q_Hp} {Q : Option Value → q_Hp → Prop} {x0 : Nat} {x1 : Int32} {m : Nat} {P : q_Hp → Prop} (hc : q_mV m 253 [.ref x0, .int 5] h P) (hm : m ≤ n) (w : ∀ h1 : q_Hp, P h1 → q_wp (n + 1) 263 41 [some (.ref x0), some (.int x1), none, none, none] [] h1 Q) : q_wp (n + 1) 263 36 [some (.ref x0), some (.int x1), none, none, none] [] h Q := by
  refine wp_loc rfl rfl ?_
  refine wp_iconst (v := 5) rfl (by decide) ?_
  exact wp_callV (av := [.ref x0, .int 5]) rfl rfl rfl (by decide) rfl rfl rfl hm hc w
theorem b263_41 {n : Nat} {h : q_Hp} {Q : Option Value → q_Hp → Prop} {x0 : Nat} {x1 : Int32} (k0 : q_ok h x0 12) {m : Nat} {P : q_Hp → Prop} (hc : q_mV m 253 [.ref x0, .int 1] h P) (hm : m ≤ n) (w : ∀ h1 : q_Hp, P h1 → q_wp (n + 1) 263 51 [some (.ref x0), some (.int x1), some (.int (qI h x0 11)), none, none] [] h1 Q) : q_wp (n + 1) 263 41 [some (.ref x0), some (.int x1), none, none, none] [] h Q := by
  refine wp_loc rfl rfl ?_
  refine wp_getI rfl rfl rfl k0 ?_
  refine wp_loc rfl rfl ?_
  refine wp_loc rfl rfl ?_
  refine wp_iconst (v := 1) rfl (by decide) ?_
  exact wp_callV (av := [.ref x0, .int 1]) rfl rfl rfl (by decide) rfl rfl rfl hm hc w
theorem b263_51 {n : Nat} {h : q_Hp} {Q : Option Value → q_Hp → Prop} {x0 : Nat} {x1 : Int32} {x2 : Int32} {m : Nat} {P : q_Hp → Prop} (hc : q_mV m 253 [.ref x0, .int 18] h P) (hm : m ≤ n) (w : ∀ h1 : q_Hp, P h1 → q_wp (n + 1) 263 57 [some (.ref x0), some (.int x1), some (.int x2), none, none] [] h1 Q) : q_wp (n + 1) 263 51 [some (.ref x0), some (.int x1), some (.int x2), none, none] [] h Q := by
  refine wp_loc rfl rfl ?_
  refine wp_bipush (v := 18) rfl (by decide) ?_
  exact wp_callV (av := [.ref x0, .int 18]) rfl rfl rfl (by decide) rfl rfl rfl hm hc w
theorem b263_57 {n : Nat} {h : q_Hp} {Q : Option Value → q_Hp → Prop} {x0 : Nat} {x1 : Int32} {x2 : Int32} (k0 : q_ok h x0 12) {m : Nat} {P : q_Hp → Prop} (hc : q_mV m 253 [.ref x0, .int 1] h P) (hm : m ≤ n) (w : ∀ h1 : q_Hp, P h1 → q_wp (n + 1) 263 67 [some (.ref x0), some (.int x1), some (.int x2), some (.int (qI h x0 11)), none] [] h1 Q) : q_wp (n + 1) 263 57 [some (.ref x0), some (.int x1), some (.int x2), none, none] [] h Q := by
  refine wp_loc rfl rfl ?_
  refine wp_getI rfl rfl rfl k0 ?_
  refine wp_loc rfl rfl ?_
  refine wp_loc rfl rfl ?_
  refine wp_iconst (v := 1) rfl (by decide) ?_
  exact wp_callV (av := [.ref x0, .int 1]) rfl rfl rfl (by decide) rfl rfl rfl hm hc w
theorem b263_67 {n : Nat} {h : q_Hp} {Q : Option Value → q_Hp → Prop} {x0 : Nat} {x1 : Int32} {x2 : Int32} {x3 : Int32} {m : Nat} {P : q_Hp → Prop} (hc : q_mV m 253 [.ref x0, .int 4] h P) (hm : m ≤ n) (w : ∀ h1 : q_Hp, P h1 → q_wp (n + 1) 263 72 [some (.ref x0), some (.int x1), some (.int x2), some (.int x3), none] [] h1 Q) : q_wp (n + 1) 263 67 [some (.ref x0), some (.int x1), some (.int x2), some (.int x3), none] [] h Q := by
  refine wp_loc rfl rfl ?_
  refine wp_iconst (v := 4) rfl (by decide) ?_
  exact wp_callV (av := [.ref x0, .int 4]) rfl rfl rfl (by decide) rfl rfl rfl hm hc w
theorem b263_72 {n : Nat} {h : q_Hp} {Q : Option Value → q_Hp → Prop} {x0 : Nat} {x1 : Int32} {x2 : Int32} {x3 : Int32} (k0 : q_ok h x0 12) (wt : (qI h x0 13) ≤ 0 → q_wp n 263 80 [some (.ref x0), some (.int x1), some (.int x2), some (.int x3), none] [] h Q) (wf : ¬ (qI h x0 13) ≤ 0 → q_wp n 263 79 [some (.ref x0), some (.int x1), some (.int x2), some (.int x3), none] [] h Q) : q_wp n 263 72 [some (.ref x0), some (.int x1), some (.int x2), some (.int x3), none] [] h Q := by
  refine wp_loc rfl rfl ?_
  refine wp_getI rfl rfl rfl k0 ?_
  exact wp_ifle (tgt := 80) rfl (by decide) wt wf
theorem b263_79 {n : Nat} {h : q_Hp} {Q : Option Value → q_Hp → Prop} {x0 : Nat} {x1 : Int32} {x2 : Int32} {x3 : Int32} (q : Q none h) : q_wp n 263 79 [some (.ref x0), some (.int x1), some (.int x2), some (.int x3), none] [] h Q := by
  exact wp_ret rfl rfl q
theorem b263_80 {n : Nat} {h : q_Hp} {Q : Option Value → q_Hp → Prop} {x0 : Nat} {x1 : Int32} {x2 : Int32} {x3 : Int32} (w : q_wp n 263 83 [some (.ref x0), some (.int x1), some (.int x2), some (.int x3), some (.int 0)] [] h Q) : q_wp n 263 80 [some (.ref x0), some (.int x1), some (.int x2), some (.int x3), none] [] h Q := by
  refine wp_iconst (v := 0) rfl (by decide) ?_
  refine wp_loc rfl rfl ?_
  exact w
theorem b263_83 {n : Nat} {h : q_Hp} {Q : Option Value → q_Hp → Prop} {x0 : Nat} {x1 : Int32} {x2 : Int32} {x3 : Int32} {x4 : Int32} (k0 : q_ok h x0 12) (wt : (qI h x0 19) ≤ x4 → q_wp n 263 121 [some (.ref x0), some (.int x1), some (.int x2), some (.int x3), some (.int x4)] [] h Q) (wf : ¬ (qI h x0 19) ≤ x4 → q_wp n 263 92 [some (.ref x0), some (.int x1), some (.int x2), some (.int x3), some (.int x4)] [] h Q) : q_wp n 263 83 [some (.ref x0), some (.int x1), some (.int x2), some (.int x3), some (.int x4)] [] h Q := by
  refine wp_loc rfl rfl ?_
  refine wp_loc rfl rfl ?_
  refine wp_getI rfl rfl rfl k0 ?_
  exact wp_icge (tgt := 121) rfl (by decide) wt wf
theorem b263_92 {n : Nat} {h : q_Hp} {Q : Option Value → q_Hp → Prop} {x0 : Nat} {x1 : Int32} {x2 : Int32} {x3 : Int32} {x4 : Int32} {v0 : Nat} {v1 : Nat} (k0 : q_ok h x0 12) (e0 : qR h x0 65 = v0) (k1 : q_ok h v0 21) (i0 : q_in x4 (qK h v0).2) (e1 : qR h x0 8 = v1) (k2 : q_ok h v1 21) (i1 : q_in x1 (qK h v1).2) (wt : ¬ (lg_cmp (qL h v0 x4.toNatClampNeg) (qL h v1 x1.toNatClampNeg)) = 0 → q_wp n 263 115 [some (.ref x0), some (.int x1), some (.int x2), some (.int x3), some (.int x4)] [] h Q) (wf : (lg_cmp (qL h v0 x4.toNatClampNeg) (qL h v1 x1.toNatClampNeg)) = 0 → q_wp n 263 109 [some (.ref x0), some (.int x1), some (.int x2), some (.int x3), some (.int x4)] [] h Q) : q_wp n 263 92 [some (.ref x0), some (.int x1), some (.int x2), some (.int x3), some (.int x4)] [] h Q := by
  refine wp_loc rfl rfl ?_
  refine wp_getR rfl rfl rfl rfl k0 e0 ?_
  refine wp_loc rfl rfl ?_
  refine wp_lald rfl k1 i0 ?_
  refine wp_loc rfl rfl ?_
  refine wp_getR rfl rfl rfl rfl k0 e1 ?_
  refine wp_loc rfl rfl ?_
  refine wp_lald rfl k2 i1 ?_
  refine wp_stk rfl rfl rfl ?_
  exact wp_ifne (tgt := 115) rfl (by decide) wt wf
theorem b263_109 {n : Nat} {h : q_Hp} {Q : Option Value → q_Hp → Prop} {x0 : Nat} {x1 : Int32} {x2 : Int32} {x3 : Int32} {x4 : Int32} {m : Nat} {P : q_Hp → Prop} (hc : q_mV m 251 [.ref x0, .int 3, .int x1] h P) (hm : m ≤ n) (w : ∀ h1 : q_Hp, P h1 → q_wp (n + 1) 263 115 [some (.ref x0), some (.int x1), some (.int x2), some (.int x3), some (.int x4)] [] h1 Q) : q_wp (n + 1) 263 109 [some (.ref x0), some (.int x1), some (.int x2), some (.int x3), some (.int x4)] [] h Q := by
  refine wp_loc rfl rfl ?_
  refine wp_iconst (v := 3) rfl (by decide) ?_
  refine wp_loc rfl rfl ?_
  exact wp_callV (av := [.ref x0, .int 3, .int x1]) rfl rfl rfl (by decide) rfl rfl rfl hm hc w
theorem b263_115 {n : Nat} {h : q_Hp} {Q : Option Value → q_Hp → Prop} {x0 : Nat} {x1 : Int32} {x2 : Int32} {x3 : Int32} {x4 : Int32} (w : q_wp n 263 83 [some (.ref x0), some (.int x1), some (.int x2), some (.int x3), some (.int (x4 + 1))] [] h Q) : q_wp n 263 115 [some (.ref x0), some (.int x1), some (.int x2), some (.int x3), some (.int x4)] [] h Q := by
  refine wp_iinc (v := 1) rfl rfl (by decide) rfl ?_
  refine wp_goto (tgt := 83) rfl (by decide) ?_
  exact w
theorem b263_121 {n : Nat} {h : q_Hp} {Q : Option Value → q_Hp → Prop} {x0 : Nat} {x1 : Int32} {x2 : Int32} {x3 : Int32} {x4 : Int32} {v0 : Nat} (k0 : q_ok h x0 12) (e0 : qR h x0 29 = v0) {m : Nat} {P : Int32 → q_Hp → Prop} (hc : q_mI m 255 [.ref x0, .int x2] h P) (hm : m ≤ n) (w : ∀ (z : Int32) (h1 : q_Hp), P z h1 → q_wp (n + 1) 263 137 [some (.ref x0), some (.int x1), some (.int x2), some (.int x3), some (.int x4)] [.int z, .int (12 + (qI h x0 19)), .ref v0] h1 Q) : q_wp (n + 1) 263 121 [some (.ref x0), some (.int x1), some (.int x2), some (.int x3), some (.int x4)] [] h Q := by
  refine wp_loc rfl rfl ?_
  refine wp_getR rfl rfl rfl rfl k0 e0 ?_
  refine wp_bipush (v := 12) rfl (by decide) ?_
  refine wp_loc rfl rfl ?_
  refine wp_getI rfl rfl rfl k0 ?_
  refine wp_stk rfl rfl rfl ?_
  refine wp_loc rfl rfl ?_
  refine wp_loc rfl rfl ?_
  exact wp_callI (av := [.ref x0, .int x2]) rfl rfl rfl (by decide) rfl rfl rfl hm hc w
theorem b263_137 {n : Nat} {h : q_Hp} {Q : Option Value → q_Hp → Prop} {x0 : Nat} {x1 : Int32} {x2 : Int32} {x3 : Int32} {x4 : Int32} {s0 : Int32} {s1 : Int32} {s2 : Nat} {v0 : Nat} (k0 : q_ok h s2 20) (i0 : q_in s1 (qK h s2).2) (k1 : q_ok h x0 12) (e0 : qR h x0 30 = v0) {m : Nat} {P : Int32 → q_Hp → Prop} (hc : q_mI m 255 [.ref x0, .int x3] (q_sA h s2 s1.toNatClampNeg s0) P) (hm : m ≤ n) (w : ∀ (z : Int32) (h1 : q_Hp), P z h1 → q_wp (n + 1) 263 154 [some (.ref x0), some (.int x1), some (.int x2), some (.int x3), some (.int x4)] [.int z, .int (12 + (qI h x0 19)), .ref v0] h1 Q) : q_wp (n + 1) 263 137 [some (.ref x0), some (.int x1), some (.int x2), some (.int x3), some (.int x4)] [.int s0, .int s1, .ref s2] h Q := by
  refine wp_iast rfl k0 i0 ?_
  refine wp_loc rfl rfl ?_
  refine wp_getR rfl rfl rfl rfl k1 e0 ?_
  refine wp_bipush (v := 12) rfl (by decide) ?_
  refine wp_loc rfl rfl ?_
  refine wp_getI rfl rfl rfl k1 ?_
  refine wp_stk rfl rfl rfl ?_
  refine wp_loc rfl rfl ?_
  refine wp_loc rfl rfl ?_
  exact wp_callI (av := [.ref x0, .int x3]) rfl rfl rfl (by decide) rfl rfl rfl hm hc w
theorem b263_154 {n : Nat} {h : q_Hp} {Q : Option Value → q_Hp → Prop} {x0 : Nat} {x1 : Int32} {x2 : Int32} {x3 : Int32} {x4 : Int32} {s0 : Int32} {s1 : Int32} {s2 : Nat} {v0 : Nat} {v1 : Nat} (k0 : q_ok h s2 20) (i0 : q_in s1 (qK h s2).2) (k1 : q_ok h x0 12) (e0 : qR h x0 65 = v0) (e1 : qR h x0 8 = v1) (k2 : q_ok h v1 21) (i1 : q_in x1 (qK h v1).2) (k3 : q_ok h v0 21) (i2 : q_in (qI h x0 19) (qK h v0).2) (q : Q none (q_sI (q_sL (q_sA h s2 s1.toNatClampNeg s0) v0 ((qI h x0 19 : Int32).toNatClampNeg) (qL h v1 x1.toNatClampNeg)) x0 19 ((qI h x0 19) + 1))) : q_wp n 263 154 [some (.ref x0), some (.int x1), some (.int x2), some (.int x3), some (.int x4)] [.int s0, .int s1, .ref s2] h Q := by
  refine wp_iast rfl k0 i0 ?_
  refine wp_loc rfl rfl ?_
  refine wp_getR rfl rfl rfl rfl k1 e0 ?_
  refine wp_loc rfl rfl ?_
  refine wp_getI rfl rfl rfl k1 ?_
  refine wp_loc rfl rfl ?_
  refine wp_getR rfl rfl rfl rfl k1 e1 ?_
  refine wp_loc rfl rfl ?_
  refine wp_lald rfl k2 i1 ?_
  refine wp_last rfl k3 i2 ?_
  refine wp_loc rfl rfl ?_
  refine wp_stk rfl rfl rfl ?_
  refine wp_getI rfl rfl rfl k1 ?_
  refine wp_iconst (v := 1) rfl (by decide) ?_
  refine wp_stk rfl rfl rfl ?_
  refine wp_putI rfl rfl (Or.inl rfl) rfl (fun h9 => by cases h9) k1 ?_
  exact wp_ret rfl rfl q
theorem b264_0 {n : Nat} {h : q_Hp} {Q : Option Value → q_Hp → Prop} {x0 : Nat} {x1 : Int32} (k0 : q_ok h x0 12) (wt : (qI h x0 13) ≤ 0 → q_wp n 264 8 [some (.ref x0), some (.int x1), none] [] h Q) (wf : ¬ (qI h x0 13) ≤ 0 → q_wp n 264 7 [some (.ref x0), some (.int x1), none] [] h Q) : q_wp n 264 0 [some (.ref x0), some (.int x1), none] [] h Q := by
  refine wp_loc rfl rfl ?_
  refine wp_getI rfl rfl rfl k0 ?_
  exact wp_ifle (tgt := 8) rfl (by decide) wt wf
theorem b264_7 {n : Nat} {h : q_Hp} {Q : Option Value → q_Hp → Prop} {x0 : Nat} {x1 : Int32} (q : Q none h) : q_wp n 264 7 [some (.ref x0), some (.int x1), none] [] h Q := by
  exact wp_ret rfl rfl q
theorem b264_8 {n : Nat} {h : q_Hp} {Q : Option Value → q_Hp → Prop} {x0 : Nat} {x1 : Int32} (w : q_wp n 264 10 [some (.ref x0), some (.int x1), some (.int 0)] [] h Q) : q_wp n 264 8 [some (.ref x0), some (.int x1), none] [] h Q := by
  refine wp_iconst (v := 0) rfl (by decide) ?_
  refine wp_loc rfl rfl ?_
  exact w
theorem b264_10 {n : Nat} {h : q_Hp} {Q : Option Value → q_Hp → Prop} {x0 : Nat} {x1 : Int32} {x2 : Int32} (k0 : q_ok h x0 12) (wt : (qI h x0 20) ≤ x2 → q_wp n 264 46 [some (.ref x0), some (.int x1), some (.int x2)] [] h Q) (wf : ¬ (qI h x0 20) ≤ x2 → q_wp n 264 18 [some (.ref x0), some (.int x1), some (.int x2)] [] h Q) : q_wp n 264 10 [some (.ref x0), some (.int x1), some (.int x2)] [] h Q := by
  refine wp_loc rfl rfl ?_
  refine wp_loc rfl rfl ?_
  refine wp_getI rfl rfl rfl k0 ?_
  exact wp_icge (tgt := 46) rfl (by decide) wt wf
theorem b264_18 {n : Nat} {h : q_Hp} {Q : Option Value → q_Hp → Prop} {x0 : Nat} {x1 : Int32} {x2 : Int32} {v0 : Nat} {v1 : Nat} (k0 : q_ok h x0 12) (e0 : qR h x0 66 = v0) (k1 : q_ok h v0 21) (i0 : q_in x2 (qK h v0).2) (e1 : qR h x0 8 = v1) (k2 : q_ok h v1 21) (i1 : q_in x1 (qK h v1).2) (wt : ¬ (lg_cmp (qL h v0 x2.toNatClampNeg) (qL h v1 x1.toNatClampNeg)) = 0 → q_wp n 264 40 [some (.ref x0), some (.int x1), some (.int x2)] [] h Q) (wf : (lg_cmp (qL h v0 x2.toNatClampNeg) (qL h v1 x1.toNatClampNeg)) = 0 → q_wp n 264 34 [some (.ref x0), some (.int x1), some (.int x2)] [] h Q) : q_wp n 264 18 [some (.ref x0), some (.int x1), some (.int x2)] [] h Q := by
  refine wp_loc rfl rfl ?_
  refine wp_getR rfl rfl rfl rfl k0 e0 ?_
  refine wp_loc rfl rfl ?_
  refine wp_lald rfl k1 i0 ?_
  refine wp_loc rfl rfl ?_
  refine wp_getR rfl rfl rfl rfl k0 e1 ?_
  refine wp_loc rfl rfl ?_
  refine wp_lald rfl k2 i1 ?_
  refine wp_stk rfl rfl rfl ?_
  exact wp_ifne (tgt := 40) rfl (by decide) wt wf
theorem b264_34 {n : Nat} {h : q_Hp} {Q : Option Value → q_Hp → Prop} {x0 : Nat} {x1 : Int32} {x2 : Int32} {m : Nat} {P : q_Hp → Prop} (hc : q_mV m 251 [.ref x0, .int 3, .int x1] h P) (hm : m ≤ n) (w : ∀ h1 : q_Hp, P h1 → q_wp (n + 1) 264 40 [some (.ref x0), some (.int x1), some (.int x2)] [] h1 Q) : q_wp (n + 1) 264 34 [some (.ref x0), some (.int x1), some (.int x2)] [] h Q := by
  refine wp_loc rfl rfl ?_
  refine wp_iconst (v := 3) rfl (by decide) ?_
  refine wp_loc rfl rfl ?_
  exact wp_callV (av := [.ref x0, .int 3, .int x1]) rfl rfl rfl (by decide) rfl rfl rfl hm hc w
theorem b264_40 {n : Nat} {h : q_Hp} {Q : Option Value → q_Hp → Prop} {x0 : Nat} {x1 : Int32} {x2 : Int32} (w : q_wp n 264 10 [some (.ref x0), some (.int x1), some (.int (x2 + 1))] [] h Q) : q_wp n 264 40 [some (.ref x0), some (.int x1), some (.int x2)] [] h Q := by
  refine wp_iinc (v := 1) rfl rfl (by decide) rfl ?_
  refine wp_goto (tgt := 10) rfl (by decide) ?_
  exact w
theorem b264_46 {n : Nat} {h : q_Hp} {Q : Option Value → q_Hp → Prop} {x0 : Nat} {x1 : Int32} {x2 : Int32} (w : q_wp n 264 48 [some (.ref x0), some (.int x1), some (.int 0)] [] h Q) : q_wp n 264 46 [some (.ref x0), some (.int x1), some (.int x2)] [] h Q := by
  refine wp_iconst (v := 0) rfl (by decide) ?_
  refine wp_loc rfl rfl ?_
  exact w
theorem b264_48 {n : Nat} {h : q_Hp} {Q : Option Value → q_Hp → Prop} {x0 : Nat} {x1 : Int32} {x2 : Int32} (k0 : q_ok h x0 12) (wt : (qI h x0 21) ≤ x2 → q_wp n 264 84 [some (.ref x0), some (.int x1), some (.int x2)] [] h Q) (wf : ¬ (qI h x0 21) ≤ x2 → q_wp n 264 56 [some (.ref x0), some (.int x1), some (.int x2)] [] h Q) : q_wp n 264 48 [some (.ref x0), some (.int x1), some (.int x2)] [] h Q := by
  refine wp_loc rfl rfl ?_
  refine wp_loc rfl rfl ?_
  refine wp_getI rfl rfl rfl k0 ?_
  exact wp_icge (tgt := 84) rfl (by decide) wt wf
theorem b264_56 {n : Nat} {h : q_Hp} {Q : Option Value → q_Hp → Prop} {x0 : Nat} {x1 : Int32} {x2 : Int32} {v0 : Nat} {v1 : Nat} (k0 : q_ok h x0 12) (e0 : qR h x0 67 = v0) (k1 : q_ok h v0 21) (i0 : q_in x2 (qK h v0).2) (e1 : qR h x0 8 = v1) (k2 : q_ok h v1 21) (i1 : q_in x1 (qK h v1).2) (wt : ¬ (lg_cmp (qL h v0 x2.toNatClampNeg) (qL h v1 x1.toNatClampNeg)) = 0 → q_wp n 264 78 [some (.ref x0), some (.int x1), some (.int x2)] [] h Q) (wf : (lg_cmp (qL h v0 x2.toNatClampNeg) (qL h v1 x1.toNatClampNeg)) = 0 → q_wp n 264 72 [some (.ref x0), some (.int x1), some (.int x2)] [] h Q) : q_wp n 264 56 [some (.ref x0), some (.int x1), some (.int x2)] [] h Q := by
  refine wp_loc rfl rfl ?_
  refine wp_getR rfl rfl rfl rfl k0 e0 ?_
  refine wp_loc rfl rfl ?_
  refine wp_lald rfl k1 i0 ?_
  refine wp_loc rfl rfl ?_
  refine wp_getR rfl rfl rfl rfl k0 e1 ?_
  refine wp_loc rfl rfl ?_
  refine wp_lald rfl k2 i1 ?_
  refine wp_stk rfl rfl rfl ?_
  exact wp_ifne (tgt := 78) rfl (by decide) wt wf
theorem b264_72 {n : Nat} {h : q_Hp} {Q : Option Value → q_Hp → Prop} {x0 : Nat} {x1 : Int32} {x2 : Int32} {m : Nat} {P : q_Hp → Prop} (hc : q_mV m 251 [.ref x0, .int 3, .int x1] h P) (hm : m ≤ n) (w : ∀ h1 : q_Hp, P h1 → q_wp (n + 1) 264 78 [some (.ref x0), some (.int x1), some (.int x2)] [] h1 Q) : q_wp (n + 1) 264 72 [some (.ref x0), some (.int x1), some (.int x2)] [] h Q := by
  refine wp_loc rfl rfl ?_
  refine wp_iconst (v := 3) rfl (by decide) ?_
  refine wp_loc rfl rfl ?_
  exact wp_callV (av := [.ref x0, .int 3, .int x1]) rfl rfl rfl (by decide) rfl rfl rfl hm hc w
theorem b264_78 {n : Nat} {h : q_Hp} {Q : Option Value → q_Hp → Prop} {x0 : Nat} {x1 : Int32} {x2 : Int32} (w : q_wp n 264 48 [some (.ref x0), some (.int x1), some (.int (x2 + 1))] [] h Q) : q_wp n 264 78 [some (.ref x0), some (.int x1), some (.int x2)] [] h Q := by
  refine wp_iinc (v := 1) rfl rfl (by decide) rfl ?_
  refine wp_goto (tgt := 48) rfl (by decide) ?_
  exact w
theorem b264_84 {n : Nat} {h : q_Hp} {Q : Option Value → q_Hp → Prop} {x0 : Nat} {x1 : Int32} {x2 : Int32} (q : Q none h) : q_wp n 264 84 [some (.ref x0), some (.int x1), some (.int x2)] [] h Q := by
  exact wp_ret rfl rfl q
set_option maxRecDepth 20000 in
theorem b265_0 {n : Nat} {h : q_Hp} {Q : Option Value → q_Hp → Prop} {x0 : Nat} {m : Nat} {P : q_Hp → Prop} (hc : q_mV m 252 [.ref x0] h P) (hm : m ≤ n) (w : ∀ h1 : q_Hp, P h1 → q_wp (n + 1) 265 4 [some (.ref x0), none, none] [] h1 Q) : q_wp (n + 1) 265 0 [some (.ref x0), none, none] [] h Q := by
  refine wp_loc rfl rfl ?_
  exact wp_callV (av := [.ref x0]) rfl rfl rfl (by decide) rfl rfl rfl hm hc w
set_option maxRecDepth 20000 in
theorem b265_4 {n : Nat} {h : q_Hp} {Q : Option Value → q_Hp → Prop} {x0 : Nat} (k0 : q_ok h x0 12) {m : Nat} {P : Int32 → q_Hp → Prop} (hc : q_mI m 249 [.ref x0, .int 1] h P) (hm : m ≤ n) (w : ∀ (z : Int32) (h1 : q_Hp), P z h1 → q_wp (n + 1) 265 14 [some (.ref x0), some (.int (qI h x0 11)), none] [.int z] h1 Q) : q_wp (n + 1) 265 4 [some (.ref x0), none, none] [] h Q := by
  refine wp_loc rfl rfl ?_
  refine wp_getI rfl rfl rfl k0 ?_
  refine wp_loc rfl rfl ?_
  refine wp_loc rfl rfl ?_
  refine wp_iconst (v := 1) rfl (by decide) ?_
  exact wp_callI (av := [.ref x0, .int 1]) rfl rfl rfl (by decide) rfl rfl rfl hm hc w
set_option maxRecDepth 20000 in
theorem b265_14 {n : Nat} {h : q_Hp} {Q : Option Value → q_Hp → Prop} {x0 : Nat} {x1 : Int32} {s0 : Int32} (wt : s0 = 0 → q_wp n 265 31 [some (.ref x0), some (.int x1), none] [] h Q) (wf : ¬ s0 = 0 → q_wp n 265 17 [some (.ref x0), some (.int x1), none] [] h Q) : q_wp n 265 14 [some (.ref x0), some (.int x1), none] [.int s0] h Q := by
  exact wp_ifeq (tgt := 31) rfl (by decide) wt wf
set_option maxRecDepth 20000 in
theorem b265_17 {n : Nat} {h : q_Hp} {Q : Option Value → q_Hp → Prop} {x0 : Nat} {x1 : Int32} (k0 : q_ok h x0 12) (wt : ¬ (qI h x0 20) = 20 → q_wp n 265 31 [some (.ref x0), some (.int x1), none] [] h Q) (wf : (qI h x0 20) = 20 → q_wp n 265 26 [some (.ref x0), some (.int x1), none] [] h Q) : q_wp n 265 17 [some (.ref x0), some (.int x1), none] [] h Q := by
  refine wp_loc rfl rfl ?_
  refine wp_getI rfl rfl rfl k0 ?_
  refine wp_bipush (v := 20) rfl (by decide) ?_
  exact wp_icne (tgt := 31) rfl (by decide) wt wf
set_option maxRecDepth 20000 in
theorem b265_26 {n : Nat} {h : q_Hp} {Q : Option Value → q_Hp → Prop} {x0 : Nat} {x1 : Int32} {m : Nat} {P : q_Hp → Prop} (hc : q_mV m 250 [.ref x0, .int 2] h P) (hm : m ≤ n) (w : ∀ h1 : q_Hp, P h1 → q_wp (n + 1) 265 31 [some (.ref x0), some (.int x1), none] [] h1 Q) : q_wp (n + 1) 265 26 [some (.ref x0), some (.int x1), none] [] h Q := by
  refine wp_loc rfl rfl ?_
  refine wp_iconst (v := 2) rfl (by decide) ?_
  exact wp_callV (av := [.ref x0, .int 2]) rfl rfl rfl (by decide) rfl rfl rfl hm hc w
set_option maxRecDepth 20000 in
theorem b265_31 {n : Nat} {h : q_Hp} {Q : Option Value → q_Hp → Prop} {x0 : Nat} {x1 : Int32} {m : Nat} {P : q_Hp → Prop} (hc : q_mV m 253 [.ref x0, .int 1] h P) (hm : m ≤ n) (w : ∀ h1 : q_Hp, P h1 → q_wp (n + 1) 265 36 [some (.ref x0), some (.int x1), none] [] h1 Q) : q_wp (n + 1) 265 31 [some (.ref x0), some (.int x1), none] [] h Q := by
  refine wp_loc rfl rfl ?_
  refine wp_iconst (v := 1) rfl (by decide) ?_
  exact wp_callV (av := [.ref x0, .int 1]) rfl rfl rfl (by decide) rfl rfl rfl hm hc w
set_option maxRecDepth 20000 in
theorem b265_36 {n : Nat} {h : q_Hp} {Q : Option Value → q_Hp → Prop} {x0 : Nat} {x1 : Int32} (k0 : q_ok h x0 12) (wt : (qI h x0 13) ≤ 0 → q_wp n 265 44 [some (.ref x0), some (.int x1), none] [] h Q) (wf : ¬ (qI h x0 13) ≤ 0 → q_wp n 265 43 [some (.ref x0), some (.int x1), none] [] h Q) : q_wp n 265 36 [some (.ref x0), some (.int x1), none] [] h Q := by
  refine wp_loc rfl rfl ?_
  refine wp_getI rfl rfl rfl k0 ?_
  exact wp_ifle (tgt := 44) rfl (by decide) wt wf
set_option maxRecDepth 20000 in
theorem b265_43 {n : Nat} {h : q_Hp} {Q : Option Value → q_Hp → Prop} {x0 : Nat} {x1 : Int32} (q : Q none h) : q_wp n 265 43 [some (.ref x0), some (.int x1), none] [] h Q := by
  exact wp_ret rfl rfl q
set_option maxRecDepth 20000 in
theorem b265_44 {n : Nat} {h : q_Hp} {Q : Option Value → q_Hp → Prop} {x0 : Nat} {x1 : Int32} {m : Nat} {P : q_Hp → Prop} (hc : q_mV m 264 [.ref x0, .int x1] h P) (hm : m ≤ n) (w : ∀ h1 : q_Hp, P h1 → q_wp (n + 1) 265 49 [some (.ref x0), some (.int x1), none] [] h1 Q) : q_wp (n + 1) 265 44 [some (.ref x0), some (.int x1), none] [] h Q := by
  refine wp_loc rfl rfl ?_
  refine wp_loc rfl rfl ?_
  exact wp_callV (av := [.ref x0, .int x1]) rfl rfl rfl (by decide) rfl rfl rfl hm hc w
set_option maxRecDepth 20000 in
theorem b265_49 {n : Nat} {h : q_Hp} {Q : Option Value → q_Hp → Prop} {x0 : Nat} {x1 : Int32} {v0 : Nat} {v1 : Nat} {v2 : Nat} {v3 : Nat} {v4 : Nat} {v5 : Nat} {v6 : Nat} {v7 : Nat} (k0 : q_ok h x0 12) (e0 : qR h x0 66 = v0) (e1 : qR h x0 8 = v1) (k1 : q_ok h v1 21) (i0 : q_in x1 (qK h v1).2) (k2 : q_ok h v0 21) (i1 : q_in (qI h x0 20) (qK h v0).2) (e2 : qR h x0 31 = v2) (k3 : q_ok h v2 20) (i2 : q_in (20 + (qI h x0 20)) (qK h v2).2) (e3 : qR h x0 32 = v3) (k4 : q_ok h v3 20) (i3 : q_in (20 + (qI h x0 20)) (qK h v3).2) (e4 : qR h x0 33 = v4) (k5 : q_ok h v4 23) (i4 : q_in (20 + (qI h x0 20)) (qK h v4).2) (e5 : qR h x0 38 = v5) (k6 : q_ok h v5 20) (i5 : q_in (20 + (qI h x0 20)) (qK h v5).2) (e6 : qR h x0 44 = v6) (k7 : q_ok h v6 20) (i6 : q_in (20 + (qI h x0 20)) (qK h v6).2) (e7 : qR h x0 49 = v7) (k8 : q_ok h v7 20) (i7 : q_in (20 + (qI h x0 20)) (qK h v7).2) (w : q_wp n 265 129 [some (.ref x0), some (.int x1), some (.int (20 + (qI h x0 20)))] [] (q_sI (q_sA (q_sA (q_sA (q_sA (q_sA (q_sA (q_sI (q_sL h v0 ((qI h x0 20 : Int32).toNatClampNeg) (qL h v1 x1.toNatClampNeg)) x0 20 ((qI h x0 20) + 1)) v2 ((20 + (qI h x0 20) : Int32).toNatClampNeg) 0) v3 ((20 + (qI h x0 20) : Int32).toNatClampNeg) 0) v4 ((20 + (qI h x0 20) : Int32).toNatClampNeg) (vp_nar .boolean 0)) v5 ((20 + (qI h x0 20) : Int32).toNatClampNeg) 0) v6 ((20 + (qI h x0 20) : Int32).toNatClampNeg) 0) v7 ((20 + (qI h x0 20) : Int32).toNatClampNeg) 0) x0 68 0) Q) : q_wp n 265 49 [some (.ref x0), some (.int x1), none] [] h Q := by
  refine wp_loc rfl rfl ?_
  refine wp_getR rfl rfl rfl rfl k0 e0 ?_
  refine wp_loc rfl rfl ?_
  refine wp_getI rfl rfl rfl k0 ?_
  refine wp_loc rfl rfl ?_
  refine wp_getR rfl rfl rfl rfl k0 e1 ?_
  refine wp_loc rfl rfl ?_
  refine wp_lald rfl k1 i0 ?_
  refine wp_last rfl k2 i1 ?_
  refine wp_bipush (v := 20) rfl (by decide) ?_
  refine wp_loc rfl rfl ?_
  refine wp_getI rfl rfl rfl k0 ?_
  refine wp_stk rfl rfl rfl ?_
  refine wp_loc rfl rfl ?_
  refine wp_loc rfl rfl ?_
  refine wp_stk rfl rfl rfl ?_
  refine wp_getI rfl rfl rfl k0 ?_
  refine wp_iconst (v := 1) rfl (by decide) ?_
  refine wp_stk rfl rfl rfl ?_
  refine wp_putI rfl rfl (Or.inl rfl) rfl (fun h9 => by cases h9) k0 ?_
  refine wp_loc rfl rfl ?_
  refine wp_getR rfl rfl rfl rfl k0 e2 ?_
  refine wp_loc rfl rfl ?_
  refine wp_iconst (v := 0) rfl (by decide) ?_
  refine wp_iast rfl k3 i2 ?_
  refine wp_loc rfl rfl ?_
  refine wp_getR rfl rfl rfl rfl k0 e3 ?_
  refine wp_loc rfl rfl ?_
  refine wp_iconst (v := 0) rfl (by decide) ?_
  refine wp_iast rfl k4 i3 ?_
  refine wp_loc rfl rfl ?_
  refine wp_getR rfl rfl rfl rfl k0 e4 ?_
  refine wp_loc rfl rfl ?_
  refine wp_iconst (v := 0) rfl (by decide) ?_
  refine wp_zast rfl k5 i4 ?_
  refine wp_loc rfl rfl ?_
  refine wp_getR rfl rfl rfl rfl k0 e5 ?_
  refine wp_loc rfl rfl ?_
  refine wp_iconst (v := 0) rfl (by decide) ?_
  refine wp_iast rfl k6 i5 ?_
  refine wp_loc rfl rfl ?_
  refine wp_getR rfl rfl rfl rfl k0 e6 ?_
  refine wp_loc rfl rfl ?_
  refine wp_iconst (v := 0) rfl (by decide) ?_
  refine wp_iast rfl k7 i6 ?_
  refine wp_loc rfl rfl ?_
  refine wp_getR rfl rfl rfl rfl k0 e7 ?_
  refine wp_loc rfl rfl ?_
  refine wp_iconst (v := 0) rfl (by decide) ?_
  refine wp_iast rfl k8 i7 ?_
  refine wp_loc rfl rfl ?_
  refine wp_iconst (v := 0) rfl (by decide) ?_
  refine wp_putI rfl rfl (Or.inl rfl) rfl (fun h9 => by cases h9) k0 ?_
  exact w
set_option maxRecDepth 20000 in
theorem b265_129 {n : Nat} {h : q_Hp} {Q : Option Value → q_Hp → Prop} {x0 : Nat} {x1 : Int32} {x2 : Int32} {m : Nat} {P : Int32 → q_Hp → Prop} (hc : q_mI m 249 [.ref x0, .int 25] h P) (hm : m ≤ n) (w : ∀ (z : Int32) (h1 : q_Hp), P z h1 → q_wp (n + 1) 265 135 [some (.ref x0), some (.int x1), some (.int x2)] [.int z] h1 Q) : q_wp (n + 1) 265 129 [some (.ref x0), some (.int x1), some (.int x2)] [] h Q := by
  refine wp_loc rfl rfl ?_
  refine wp_bipush (v := 25) rfl (by decide) ?_
  exact wp_callI (av := [.ref x0, .int 25]) rfl rfl rfl (by decide) rfl rfl rfl hm hc w
set_option maxRecDepth 20000 in
theorem b265_135 {n : Nat} {h : q_Hp} {Q : Option Value → q_Hp → Prop} {x0 : Nat} {x1 : Int32} {x2 : Int32} {s0 : Int32} (wt : ¬ s0 = 0 → q_wp n 265 156 [some (.ref x0), some (.int x1), some (.int x2)] [] h Q) (wf : s0 = 0 → q_wp n 265 138 [some (.ref x0), some (.int x1), some (.int x2)] [] h Q) : q_wp n 265 135 [some (.ref x0), some (.int x1), some (.int x2)] [.int s0] h Q := by
  exact wp_ifne (tgt := 156) rfl (by decide) wt wf
set_option maxRecDepth 20000 in
theorem b265_138 {n : Nat} {h : q_Hp} {Q : Option Value → q_Hp → Prop} {x0 : Nat} {x1 : Int32} {x2 : Int32} {m : Nat} {P : Int32 → q_Hp → Prop} (hc : q_mI m 249 [.ref x0, .int 26] h P) (hm : m ≤ n) (w : ∀ (z : Int32) (h1 : q_Hp), P z h1 → q_wp (n + 1) 265 144 [some (.ref x0), some (.int x1), some (.int x2)] [.int z] h1 Q) : q_wp (n + 1) 265 138 [some (.ref x0), some (.int x1), some (.int x2)] [] h Q := by
  refine wp_loc rfl rfl ?_
  refine wp_bipush (v := 26) rfl (by decide) ?_
  exact wp_callI (av := [.ref x0, .int 26]) rfl rfl rfl (by decide) rfl rfl rfl hm hc w
set_option maxRecDepth 20000 in
theorem b265_144 {n : Nat} {h : q_Hp} {Q : Option Value → q_Hp → Prop} {x0 : Nat} {x1 : Int32} {x2 : Int32} {s0 : Int32} (wt : ¬ s0 = 0 → q_wp n 265 156 [some (.ref x0), some (.int x1), some (.int x2)] [] h Q) (wf : s0 = 0 → q_wp n 265 147 [some (.ref x0), some (.int x1), some (.int x2)] [] h Q) : q_wp n 265 144 [some (.ref x0), some (.int x1), some (.int x2)] [.int s0] h Q := by
  exact wp_ifne (tgt := 156) rfl (by decide) wt wf
set_option maxRecDepth 20000 in
theorem b265_147 {n : Nat} {h : q_Hp} {Q : Option Value → q_Hp → Prop} {x0 : Nat} {x1 : Int32} {x2 : Int32} {m : Nat} {P : Int32 → q_Hp → Prop} (hc : q_mI m 249 [.ref x0, .int 27] h P) (hm : m ≤ n) (w : ∀ (z : Int32) (h1 : q_Hp), P z h1 → q_wp (n + 1) 265 153 [some (.ref x0), some (.int x1), some (.int x2)] [.int z] h1 Q) : q_wp (n + 1) 265 147 [some (.ref x0), some (.int x1), some (.int x2)] [] h Q := by
  refine wp_loc rfl rfl ?_
  refine wp_bipush (v := 27) rfl (by decide) ?_
  exact wp_callI (av := [.ref x0, .int 27]) rfl rfl rfl (by decide) rfl rfl rfl hm hc w
set_option maxRecDepth 20000 in
theorem b265_153 {n : Nat} {h : q_Hp} {Q : Option Value → q_Hp → Prop} {x0 : Nat} {x1 : Int32} {x2 : Int32} {s0 : Int32} (wt : s0 = 0 → q_wp n 265 209 [some (.ref x0), some (.int x1), some (.int x2)] [] h Q) (wf : ¬ s0 = 0 → q_wp n 265 156 [some (.ref x0), some (.int x1), some (.int x2)] [] h Q) : q_wp n 265 153 [some (.ref x0), some (.int x1), some (.int x2)] [.int s0] h Q := by
  exact wp_ifeq (tgt := 209) rfl (by decide) wt wf
set_option maxRecDepth 20000 in
theorem b265_156 {n : Nat} {h : q_Hp} {Q : Option Value → q_Hp → Prop} {x0 : Nat} {x1 : Int32} {x2 : Int32} {m : Nat} {P : Int32 → q_Hp → Prop} (hc : q_mI m 249 [.ref x0, .int 25] h P) (hm : m ≤ n) (w : ∀ (z : Int32) (h1 : q_Hp), P z h1 → q_wp (n + 1) 265 162 [some (.ref x0), some (.int x1), some (.int x2)] [.int z] h1 Q) : q_wp (n + 1) 265 156 [some (.ref x0), some (.int x1), some (.int x2)] [] h Q := by
  refine wp_loc rfl rfl ?_
  refine wp_bipush (v := 25) rfl (by decide) ?_
  exact wp_callI (av := [.ref x0, .int 25]) rfl rfl rfl (by decide) rfl rfl rfl hm hc w
set_option maxRecDepth 20000 in
theorem b265_162 {n : Nat} {h : q_Hp} {Q : Option Value → q_Hp → Prop} {x0 : Nat} {x1 : Int32} {x2 : Int32} {s0 : Int32} (wt : s0 = 0 → q_wp n 265 173 [some (.ref x0), some (.int x1), some (.int x2)] [] h Q) (wf : ¬ s0 = 0 → q_wp n 265 165 [some (.ref x0), some (.int x1), some (.int x2)] [] h Q) : q_wp n 265 162 [some (.ref x0), some (.int x1), some (.int x2)] [.int s0] h Q := by
  exact wp_ifeq (tgt := 173) rfl (by decide) wt wf
set_option maxRecDepth 20000 in
theorem b265_165 {n : Nat} {h : q_Hp} {Q : Option Value → q_Hp → Prop} {x0 : Nat} {x1 : Int32} {x2 : Int32} {m : Nat} {P : q_Hp → Prop} (hc : q_mV m 266 [.ref x0, .int x2] h P) (hm : m ≤ n) (w : ∀ h1 : q_Hp, P h1 → q_wp (n + 1) 265 170 [some (.ref x0), some (.int x1), some (.int x2)] [] h1 Q) : q_wp (n + 1) 265 165 [some (.ref x0), some (.int x1), some (.int x2)] [] h Q := by
  refine wp_loc rfl rfl ?_
  refine wp_loc rfl rfl ?_
  exact wp_callV (av := [.ref x0, .int x2]) rfl rfl rfl (by decide) rfl rfl rfl hm hc w
set_option maxRecDepth 20000 in
theorem b265_170 {n : Nat} {h : q_Hp} {Q : Option Value → q_Hp → Prop} {x0 : Nat} {x1 : Int32} {x2 : Int32} (w : q_wp n 265 129 [some (.ref x0), some (.int x1), some (.int x2)] [] h Q) : q_wp n 265 170 [some (.ref x0), some (.int x1), some (.int x2)] [] h Q := by
  refine wp_goto (tgt := 129) rfl (by decide) ?_
  exact w
set_option maxRecDepth 20000 in
theorem b265_173 {n : Nat} {h : q_Hp} {Q : Option Value → q_Hp → Prop} {x0 : Nat} {x1 : Int32} {x2 : Int32} {m : Nat} {P : Int32 → q_Hp → Prop} (hc : q_mI m 249 [.ref x0, .int 26] h P) (hm : m ≤ n) (w : ∀ (z : Int32) (h1 : q_Hp), P z h1 → q_wp (n + 1) 265 179 [some (.ref x0), some (.int x1), some (.int x2)] [.int z] h1 Q) : q_wp (n + 1) 265 173 [some (.ref x0), some (.int x1), some (.int x2)] [] h Q := by
  refine wp_loc rfl rfl ?_
  refine wp_bipush (v := 26) rfl (by decide) ?_
  exact wp_callI (av := [.ref x0, .int 26]) rfl rfl rfl (by decide) rfl rfl rfl hm hc w
set_option maxRecDepth 20000 in
theorem b265_179 {n : Nat} {h : q_Hp} {Q : Option Value → q_Hp → Prop} {x0 : Nat} {x1 : Int32} {x2 : Int32} {s0 : Int32} (wt : s0 = 0 → q_wp n 265 190 [some (.ref x0), some (.int x1), some (.int x2)] [] h Q) (wf : ¬ s0 = 0 → q_wp n 265 182 [some (.ref x0), some (.int x1), some (.int x2)] [] h Q) : q_wp n 265 179 [some (.ref x0), some (.int x1), some (.int x2)] [.int s0] h Q := by
  exact wp_ifeq (tgt := 190) rfl (by decide) wt wf
set_option maxRecDepth 20000 in
theorem b265_182 {n : Nat} {h : q_Hp} {Q : Option Value → q_Hp → Prop} {x0 : Nat} {x1 : Int32} {x2 : Int32} {m : Nat} {P : q_Hp → Prop} (hc : q_mV m 268 [.ref x0, .int x2] h P) (hm : m ≤ n) (w : ∀ h1 : q_Hp, P h1 → q_wp (n + 1) 265 187 [some (.ref x0), some (.int x1), some (.int x2)] [] h1 Q) : q_wp (n + 1) 265 182 [some (.ref x0), some (.int x1), some (.int x2)] [] h Q := by
  refine wp_loc rfl rfl ?_
  refine wp_loc rfl rfl ?_
  exact wp_callV (av := [.ref x0, .int x2]) rfl rfl rfl (by decide) rfl rfl rfl hm hc w
set_option maxRecDepth 20000 in
theorem b265_187 {n : Nat} {h : q_Hp} {Q : Option Value → q_Hp → Prop} {x0 : Nat} {x1 : Int32} {x2 : Int32} (w : q_wp n 265 129 [some (.ref x0), some (.int x1), some (.int x2)] [] h Q) : q_wp n 265 187 [some (.ref x0), some (.int x1), some (.int x2)] [] h Q := by
  refine wp_goto (tgt := 129) rfl (by decide) ?_
  exact w
set_option maxRecDepth 20000 in
theorem b265_190 {n : Nat} {h : q_Hp} {Q : Option Value → q_Hp → Prop} {x0 : Nat} {x1 : Int32} {x2 : Int32} {m : Nat} {P : q_Hp → Prop} (hc : q_mV m 252 [.ref x0] h P) (hm : m ≤ n) (w : ∀ h1 : q_Hp, P h1 → q_wp (n + 1) 265 194 [some (.ref x0), some (.int x1), some (.int x2)] [] h1 Q) : q_wp (n + 1) 265 190 [some (.ref x0), some (.int x1), some (.int x2)] [] h Q := by
  refine wp_loc rfl rfl ?_
  exact wp_callV (av := [.ref x0]) rfl rfl rfl (by decide) rfl rfl rfl hm hc w
set_option maxRecDepth 20000 in
theorem b265_194 {n : Nat} {h : q_Hp} {Q : Option Value → q_Hp → Prop} {x0 : Nat} {x1 : Int32} {x2 : Int32} {m : Nat} {P : q_Hp → Prop} (hc : q_mV m 253 [.ref x0, .int 4] h P) (hm : m ≤ n) (w : ∀ h1 : q_Hp, P h1 → q_wp (n + 1) 265 199 [some (.ref x0), some (.int x1), some (.int x2)] [] h1 Q) : q_wp (n + 1) 265 194 [some (.ref x0), some (.int x1), some (.int x2)] [] h Q := by
  refine wp_loc rfl rfl ?_
  refine wp_iconst (v := 4) rfl (by decide) ?_
  exact wp_callV (av := [.ref x0, .int 4]) rfl rfl rfl (by decide) rfl rfl rfl hm hc w
set_option maxRecDepth 20000 in
theorem b265_199 {n : Nat} {h : q_Hp} {Q : Option Value → q_Hp → Prop} {x0 : Nat} {x1 : Int32} {x2 : Int32} {v0 : Nat} (k0 : q_ok h x0 12) (e0 : qR h x0 33 = v0) (k1 : q_ok h v0 23) (i0 : q_in x2 (qK h v0).2) (w : q_wp n 265 129 [some (.ref x0), some (.int x1), some (.int x2)] [] (q_sA h v0 x2.toNatClampNeg (vp_nar .boolean 1)) Q) : q_wp n 265 199 [some (.ref x0), some (.int x1), some (.int x2)] [] h Q := by
  refine wp_loc rfl rfl ?_
  refine wp_getR rfl rfl rfl rfl k0 e0 ?_
  refine wp_loc rfl rfl ?_
  refine wp_iconst (v := 1) rfl (by decide) ?_
  refine wp_zast rfl k1 i0 ?_
  refine wp_goto (tgt := 129) rfl (by decide) ?_
  exact w
set_option maxRecDepth 20000 in
theorem b265_209 {n : Nat} {h : q_Hp} {Q : Option Value → q_Hp → Prop} {x0 : Nat} {x1 : Int32} {x2 : Int32} {m : Nat} {P : Int32 → q_Hp → Prop} (hc : q_mI m 249 [.ref x0, .int 28] h P) (hm : m ≤ n) (w : ∀ (z : Int32) (h1 : q_Hp), P z h1 → q_wp (n + 1) 265 215 [some (.ref x0), some (.int x1), some (.int x2)] [.int z] h1 Q) : q_wp (n + 1) 265 209 [some (.ref x0), some (.int x1), some (.int x2)] [] h Q := by
  refine wp_loc rfl rfl ?_
  refine wp_bipush (v := 28) rfl (by decide) ?_
  exact wp_callI (av := [.ref x0, .int 28]) rfl rfl rfl (by decide) rfl rfl rfl hm hc w
set_option maxRecDepth 20000 in
theorem b265_215 {n : Nat} {h : q_Hp} {Q : Option Value → q_Hp → Prop} {x0 : Nat} {x1 : Int32} {x2 : Int32} {s0 : Int32} (wt : s0 = 0 → q_wp n 265 226 [some (.ref x0), some (.int x1), some (.int x2)] [] h Q) (wf : ¬ s0 = 0 → q_wp n 265 218 [some (.ref x0), some (.int x1), some (.int x2)] [] h Q) : q_wp n 265 215 [some (.ref x0), some (.int x1), some (.int x2)] [.int s0] h Q := by
  exact wp_ifeq (tgt := 226) rfl (by decide) wt wf
set_option maxRecDepth 20000 in
theorem b265_218 {n : Nat} {h : q_Hp} {Q : Option Value → q_Hp → Prop} {x0 : Nat} {x1 : Int32} {x2 : Int32} {m : Nat} {P : q_Hp → Prop} (hc : q_mV m 269 [.ref x0, .int x2] h P) (hm : m ≤ n) (w : ∀ h1 : q_Hp, P h1 → q_wp (n + 1) 265 223 [some (.ref x0), some (.int x1), some (.int x2)] [] h1 Q) : q_wp (n + 1) 265 218 [some (.ref x0), some (.int x1), some (.int x2)] [] h Q := by
  refine wp_loc rfl rfl ?_
  refine wp_loc rfl rfl ?_
  exact wp_callV (av := [.ref x0, .int x2]) rfl rfl rfl (by decide) rfl rfl rfl hm hc w
set_option maxRecDepth 20000 in
theorem b265_223 {n : Nat} {h : q_Hp} {Q : Option Value → q_Hp → Prop} {x0 : Nat} {x1 : Int32} {x2 : Int32} (w : q_wp n 265 209 [some (.ref x0), some (.int x1), some (.int x2)] [] h Q) : q_wp n 265 223 [some (.ref x0), some (.int x1), some (.int x2)] [] h Q := by
  refine wp_goto (tgt := 209) rfl (by decide) ?_
  exact w
set_option maxRecDepth 20000 in
theorem b265_226 {n : Nat} {h : q_Hp} {Q : Option Value → q_Hp → Prop} {x0 : Nat} {x1 : Int32} {x2 : Int32} {m : Nat} {P : Int32 → q_Hp → Prop} (hc : q_mI m 249 [.ref x0, .int 30] h P) (hm : m ≤ n) (w : ∀ (z : Int32) (h1 : q_Hp), P z h1 → q_wp (n + 1) 265 232 [some (.ref x0), some (.int x1), some (.int x2)] [.int z] h1 Q) : q_wp (n + 1) 265 226 [some (.ref x0), some (.int x1), some (.int x2)] [] h Q := by
  refine wp_loc rfl rfl ?_
  refine wp_bipush (v := 30) rfl (by decide) ?_
  exact wp_callI (av := [.ref x0, .int 30]) rfl rfl rfl (by decide) rfl rfl rfl hm hc w
set_option maxRecDepth 20000 in
theorem b265_232 {n : Nat} {h : q_Hp} {Q : Option Value → q_Hp → Prop} {x0 : Nat} {x1 : Int32} {x2 : Int32} {s0 : Int32} (wt : s0 = 0 → q_wp n 265 243 [some (.ref x0), some (.int x1), some (.int x2)] [] h Q) (wf : ¬ s0 = 0 → q_wp n 265 235 [some (.ref x0), some (.int x1), some (.int x2)] [] h Q) : q_wp n 265 232 [some (.ref x0), some (.int x1), some (.int x2)] [.int s0] h Q := by
  exact wp_ifeq (tgt := 243) rfl (by decide) wt wf
set_option maxRecDepth 20000 in
theorem b265_235 {n : Nat} {h : q_Hp} {Q : Option Value → q_Hp → Prop} {x0 : Nat} {x1 : Int32} {x2 : Int32} {m : Nat} {P : q_Hp → Prop} (hc : q_mV m 270 [.ref x0, .int x2] h P) (hm : m ≤ n) (w : ∀ h1 : q_Hp, P h1 → q_wp (n + 1) 265 240 [some (.ref x0), some (.int x1), some (.int x2)] [] h1 Q) : q_wp (n + 1) 265 235 [some (.ref x0), some (.int x1), some (.int x2)] [] h Q := by
  refine wp_loc rfl rfl ?_
  refine wp_loc rfl rfl ?_
  exact wp_callV (av := [.ref x0, .int x2]) rfl rfl rfl (by decide) rfl rfl rfl hm hc w
set_option maxRecDepth 20000 in
theorem b265_240 {n : Nat} {h : q_Hp} {Q : Option Value → q_Hp → Prop} {x0 : Nat} {x1 : Int32} {x2 : Int32} (w : q_wp n 265 226 [some (.ref x0), some (.int x1), some (.int x2)] [] h Q) : q_wp n 265 240 [some (.ref x0), some (.int x1), some (.int x2)] [] h Q := by
  refine wp_goto (tgt := 226) rfl (by decide) ?_
  exact w
set_option maxRecDepth 20000 in
theorem b265_243 {n : Nat} {h : q_Hp} {Q : Option Value → q_Hp → Prop} {x0 : Nat} {x1 : Int32} {x2 : Int32} {m : Nat} {P : Int32 → q_Hp → Prop} (hc : q_mI m 249 [.ref x0, .int 31] h P) (hm : m ≤ n) (w : ∀ (z : Int32) (h1 : q_Hp), P z h1 → q_wp (n + 1) 265 249 [some (.ref x0), some (.int x1), some (.int x2)] [.int z] h1 Q) : q_wp (n + 1) 265 243 [some (.ref x0), some (.int x1), some (.int x2)] [] h Q := by
  refine wp_loc rfl rfl ?_
  refine wp_bipush (v := 31) rfl (by decide) ?_
  exact wp_callI (av := [.ref x0, .int 31]) rfl rfl rfl (by decide) rfl rfl rfl hm hc w
set_option maxRecDepth 20000 in
theorem b265_249 {n : Nat} {h : q_Hp} {Q : Option Value → q_Hp → Prop} {x0 : Nat} {x1 : Int32} {x2 : Int32} {s0 : Int32} (wt : ¬ s0 = 0 → q_wp n 265 279 [some (.ref x0), some (.int x1), some (.int x2)] [] h Q) (wf : s0 = 0 → q_wp n 265 252 [some (.ref x0), some (.int x1), some (.int x2)] [] h Q) : q_wp n 265 249 [some (.ref x0), some (.int x1), some (.int x2)] [.int s0] h Q := by
  exact wp_ifne (tgt := 279) rfl (by decide) wt wf
set_option maxRecDepth 20000 in
theorem b265_252 {n : Nat} {h : q_Hp} {Q : Option Value → q_Hp → Prop} {x0 : Nat} {x1 : Int32} {x2 : Int32} {m : Nat} {P : Int32 → q_Hp → Prop} (hc : q_mI m 249 [.ref x0, .int 32] h P) (hm : m ≤ n) (w : ∀ (z : Int32) (h1 : q_Hp), P z h1 → q_wp (n + 1) 265 258 [some (.ref x0), some (.int x1), some (.int x2)] [.int z] h1 Q) : q_wp (n + 1) 265 252 [some (.ref x0), some (.int x1), some (.int x2)] [] h Q := by
  refine wp_loc rfl rfl ?_
  refine wp_bipush (v := 32) rfl (by decide) ?_
  exact wp_callI (av := [.ref x0, .int 32]) rfl rfl rfl (by decide) rfl rfl rfl hm hc w
set_option maxRecDepth 20000 in
theorem b265_258 {n : Nat} {h : q_Hp} {Q : Option Value → q_Hp → Prop} {x0 : Nat} {x1 : Int32} {x2 : Int32} {s0 : Int32} (wt : ¬ s0 = 0 → q_wp n 265 279 [some (.ref x0), some (.int x1), some (.int x2)] [] h Q) (wf : s0 = 0 → q_wp n 265 261 [some (.ref x0), some (.int x1), some (.int x2)] [] h Q) : q_wp n 265 258 [some (.ref x0), some (.int x1), some (.int x2)] [.int s0] h Q := by
  exact wp_ifne (tgt := 279) rfl (by decide) wt wf
set_option maxRecDepth 20000 in
theorem b265_261 {n : Nat} {h : q_Hp} {Q : Option Value → q_Hp → Prop} {x0 : Nat} {x1 : Int32} {x2 : Int32} {m : Nat} {P : Int32 → q_Hp → Prop} (hc : q_mI m 249 [.ref x0, .int 33] h P) (hm : m ≤ n) (w : ∀ (z : Int32) (h1 : q_Hp), P z h1 → q_wp (n + 1) 265 267 [some (.ref x0), some (.int x1), some (.int x2)] [.int z] h1 Q) : q_wp (n + 1) 265 261 [some (.ref x0), some (.int x1), some (.int x2)] [] h Q := by
  refine wp_loc rfl rfl ?_
  refine wp_bipush (v := 33) rfl (by decide) ?_
  exact wp_callI (av := [.ref x0, .int 33]) rfl rfl rfl (by decide) rfl rfl rfl hm hc w
set_option maxRecDepth 20000 in
theorem b265_267 {n : Nat} {h : q_Hp} {Q : Option Value → q_Hp → Prop} {x0 : Nat} {x1 : Int32} {x2 : Int32} {s0 : Int32} (wt : ¬ s0 = 0 → q_wp n 265 279 [some (.ref x0), some (.int x1), some (.int x2)] [] h Q) (wf : s0 = 0 → q_wp n 265 270 [some (.ref x0), some (.int x1), some (.int x2)] [] h Q) : q_wp n 265 267 [some (.ref x0), some (.int x1), some (.int x2)] [.int s0] h Q := by
  exact wp_ifne (tgt := 279) rfl (by decide) wt wf
set_option maxRecDepth 20000 in
theorem b265_270 {n : Nat} {h : q_Hp} {Q : Option Value → q_Hp → Prop} {x0 : Nat} {x1 : Int32} {x2 : Int32} {m : Nat} {P : Int32 → q_Hp → Prop} (hc : q_mI m 249 [.ref x0, .int 34] h P) (hm : m ≤ n) (w : ∀ (z : Int32) (h1 : q_Hp), P z h1 → q_wp (n + 1) 265 276 [some (.ref x0), some (.int x1), some (.int x2)] [.int z] h1 Q) : q_wp (n + 1) 265 270 [some (.ref x0), some (.int x1), some (.int x2)] [] h Q := by
  refine wp_loc rfl rfl ?_
  refine wp_bipush (v := 34) rfl (by decide) ?_
  exact wp_callI (av := [.ref x0, .int 34]) rfl rfl rfl (by decide) rfl rfl rfl hm hc w
set_option maxRecDepth 20000 in
theorem b265_276 {n : Nat} {h : q_Hp} {Q : Option Value → q_Hp → Prop} {x0 : Nat} {x1 : Int32} {x2 : Int32} {s0 : Int32} (wt : s0 = 0 → q_wp n 265 287 [some (.ref x0), some (.int x1), some (.int x2)] [] h Q) (wf : ¬ s0 = 0 → q_wp n 265 279 [some (.ref x0), some (.int x1), some (.int x2)] [] h Q) : q_wp n 265 276 [some (.ref x0), some (.int x1), some (.int x2)] [.int s0] h Q := by
  exact wp_ifeq (tgt := 287) rfl (by decide) wt wf
set_option maxRecDepth 20000 in
theorem b265_279 {n : Nat} {h : q_Hp} {Q : Option Value → q_Hp → Prop} {x0 : Nat} {x1 : Int32} {x2 : Int32} {m : Nat} {P : q_Hp → Prop} (hc : q_mV m 273 [.ref x0, .int x2] h P) (hm : m ≤ n) (w : ∀ h1 : q_Hp, P h1 → q_wp (n + 1) 265 284 [some (.ref x0), some (.int x1), some (.int x2)] [] h1 Q) : q_wp (n + 1) 265 279 [some (.ref x0), some (.int x1), some (.int x2)] [] h Q := by
  refine wp_loc rfl rfl ?_
  refine wp_loc rfl rfl ?_
  exact wp_callV (av := [.ref x0, .int x2]) rfl rfl rfl (by decide) rfl rfl rfl hm hc w
set_option maxRecDepth 20000 in
theorem b265_284 {n : Nat} {h : q_Hp} {Q : Option Value → q_Hp → Prop} {x0 : Nat} {x1 : Int32} {x2 : Int32} (w : q_wp n 265 243 [some (.ref x0), some (.int x1), some (.int x2)] [] h Q) : q_wp n 265 284 [some (.ref x0), some (.int x1), some (.int x2)] [] h Q := by
  refine wp_goto (tgt := 243) rfl (by decide) ?_
  exact w
set_option maxRecDepth 20000 in
theorem b265_287 {n : Nat} {h : q_Hp} {Q : Option Value → q_Hp → Prop} {x0 : Nat} {x1 : Int32} {x2 : Int32} {m : Nat} {P : q_Hp → Prop} (hc : q_mV m 253 [.ref x0, .int 29] h P) (hm : m ≤ n) (w : ∀ h1 : q_Hp, P h1 → q_wp (n + 1) 265 293 [some (.ref x0), some (.int x1), some (.int x2)] [] h1 Q) : q_wp (n + 1) 265 287 [some (.ref x0), some (.int x1), some (.int x2)] [] h Q := by
  refine wp_loc rfl rfl ?_
  refine wp_bipush (v := 29) rfl (by decide) ?_
  exact wp_callV (av := [.ref x0, .int 29]) rfl rfl rfl (by decide) rfl rfl rfl hm hc w
set_option maxRecDepth 20000 in
theorem b265_293 {n : Nat} {h : q_Hp} {Q : Option Value → q_Hp → Prop} {x0 : Nat} {x1 : Int32} {x2 : Int32} (q : Q none h) : q_wp n 265 293 [some (.ref x0), some (.int x1), some (.int x2)] [] h Q := by
  exact wp_ret rfl rfl q
theorem b266_0 {n : Nat} {h : q_Hp} {Q : Option Value → q_Hp → Prop} {x0 : Nat} {x1 : Int32} {m : Nat} {P : q_Hp → Prop} (hc : q_mV m 252 [.ref x0] h P) (hm : m ≤ n) (w : ∀ h1 : q_Hp, P h1 → q_wp (n + 1) 266 4 [some (.ref x0), some (.int x1), none, none, none] [] h1 Q) : q_wp (n + 1) 266 0 [some (.ref x0), some (.int x1), none, none, none] [] h Q := by
  refine wp_loc rfl rfl ?_
  exact wp_callV (av := [.ref x0]) rfl rfl rfl (by decide) rfl rfl rfl hm hc w
theorem b266_4 {n : Nat} {h : q_Hp} {Q : Option Value → q_Hp → Prop} {x0 : Nat} {x1 : Int32} (k0 : q_ok h x0 12) {m : Nat} {P : Int32 → q_Hp → Prop} (hc : q_mI m 249 [.ref x0, .int 1] h P) (hm : m ≤ n) (w : ∀ (z : Int32) (h1 : q_Hp), P z h1 → q_wp (n + 1) 266 14 [some (.ref x0), some (.int x1), some (.int (qI h x0 11)), none, none] [.int z] h1 Q) : q_wp (n + 1) 266 4 [some (.ref x0), some (.int x1), none, none, none] [] h Q := by
  refine wp_loc rfl rfl ?_
  refine wp_getI rfl rfl rfl k0 ?_
  refine wp_loc rfl rfl ?_
  refine wp_loc rfl rfl ?_
  refine wp_iconst (v := 1) rfl (by decide) ?_
  exact wp_callI (av := [.ref x0, .int 1]) rfl rfl rfl (by decide) rfl rfl rfl hm hc w
theorem b266_14 {n : Nat} {h : q_Hp} {Q : Option Value → q_Hp → Prop} {x0 : Nat} {x1 : Int32} {x2 : Int32} {s0 : Int32} (wt : s0 = 0 → q_wp n 266 32 [some (.ref x0), some (.int x1), some (.int x2), none, none] [] h Q) (wf : ¬ s0 = 0 → q_wp n 266 17 [some (.ref x0), some (.int x1), some (.int x2), none, none] [] h Q) : q_wp n 266 14 [some (.ref x0), some (.int x1), some (.int x2), none, none] [.int s0] h Q := by
  exact wp_ifeq (tgt := 32) rfl (by decide) wt wf
theorem b266_17 {n : Nat} {h : q_Hp} {Q : Option Value → q_Hp → Prop} {x0 : Nat} {x1 : Int32} {x2 : Int32} {v0 : Nat} (k0 : q_ok h x0 12) (e0 : qR h x0 31 = v0) (k1 : q_ok h v0 20) (i0 : q_in x1 (qK h v0).2) (wt : ¬ (qA h v0 x1.toNatClampNeg) = 4 → q_wp n 266 32 [some (.ref x0), some (.int x1), some (.int x2), none, none] [] h Q) (wf : (qA h v0 x1.toNatClampNeg) = 4 → q_wp n 266 27 [some (.ref x0), some (.int x1), some (.int x2), none, none] [] h Q) : q_wp n 266 17 [some (.ref x0), some (.int x1), some (.int x2), none, none] [] h Q := by
  refine wp_loc rfl rfl ?_
  refine wp_getR rfl rfl rfl rfl k0 e0 ?_
  refine wp_loc rfl rfl ?_
  refine wp_iald rfl k1 i0 ?_
  refine wp_iconst (v := 4) rfl (by decide) ?_
  exact wp_icne (tgt := 32) rfl (by decide) wt wf
theorem b266_27 {n : Nat} {h : q_Hp} {Q : Option Value → q_Hp → Prop} {x0 : Nat} {x1 : Int32} {x2 : Int32} {m : Nat} {P : q_Hp → Prop} (hc : q_mV m 250 [.ref x0, .int 2] h P) (hm : m ≤ n) (w : ∀ h1 : q_Hp, P h1 → q_wp (n + 1) 266 32 [some (.ref x0), some (.int x1), some (.int x2), none, none] [] h1 Q) : q_wp (n + 1) 266 27 [some (.ref x0), some (.int x1), some (.int x2), none, none] [] h Q := by
  refine wp_loc rfl rfl ?_
  refine wp_iconst (v := 2) rfl (by decide) ?_
  exact wp_callV (av := [.ref x0, .int 2]) rfl rfl rfl (by decide) rfl rfl rfl hm hc w
theorem b266_32 {n : Nat} {h : q_Hp} {Q : Option Value → q_Hp → Prop} {x0 : Nat} {x1 : Int32} {x2 : Int32} {m : Nat} {P : q_Hp → Prop} (hc : q_mV m 253 [.ref x0, .int 1] h P) (hm : m ≤ n) (w : ∀ h1 : q_Hp, P h1 → q_wp (n + 1) 266 37 [some (.ref x0), some (.int x1), some (.int x2), none, none] [] h1 Q) : q_wp (n + 1) 266 32 [some (.ref x0), some (.int x1), some (.int x2), none, none] [] h Q := by
  refine wp_loc rfl rfl ?_
  refine wp_iconst (v := 1) rfl (by decide) ?_
  exact wp_callV (av := [.ref x0, .int 1]) rfl rfl rfl (by decide) rfl rfl rfl hm hc w
theorem b266_37 {n : Nat} {h : q_Hp} {Q : Option Value → q_Hp → Prop} {x0 : Nat} {x1 : Int32} {x2 : Int32} {m : Nat} {P : q_Hp → Prop} (hc : q_mV m 253 [.ref x0, .int 5] h P) (hm : m ≤ n) (w : ∀ h1 : q_Hp, P h1 → q_wp (n + 1) 266 42 [some (.ref x0), some (.int x1), some (.int x2), none, none] [] h1 Q) : q_wp (n + 1) 266 37 [some (.ref x0), some (.int x1), some (.int x2), none, none] [] h Q := by
  refine wp_loc rfl rfl ?_
  refine wp_iconst (v := 5) rfl (by decide) ?_
  exact wp_callV (av := [.ref x0, .int 5]) rfl rfl rfl (by decide) rfl rfl rfl hm hc w
theorem b266_42 {n : Nat} {h : q_Hp} {Q : Option Value → q_Hp → Prop} {x0 : Nat} {x1 : Int32} {x2 : Int32} (k0 : q_ok h x0 12) {m : Nat} {P : q_Hp → Prop} (hc : q_mV m 253 [.ref x0, .int 1] h P) (hm : m ≤ n) (w : ∀ h1 : q_Hp, P h1 → q_wp (n + 1) 266 52 [some (.ref x0), some (.int x1), some (.int x2), some (.int (qI h x0 11)), none] [] h1 Q) : q_wp (n + 1) 266 42 [some (.ref x0), some (.int x1), some (.int x2), none, none] [] h Q := by
  refine wp_loc rfl rfl ?_
  refine wp_getI rfl rfl rfl k0 ?_
  refine wp_loc rfl rfl ?_
  refine wp_loc rfl rfl ?_
  refine wp_iconst (v := 1) rfl (by decide) ?_
  exact wp_callV (av := [.ref x0, .int 1]) rfl rfl rfl (by decide) rfl rfl rfl hm hc w
theorem b266_52 {n : Nat} {h : q_Hp} {Q : Option Value → q_Hp → Prop} {x0 : Nat} {x1 : Int32} {x2 : Int32} {x3 : Int32} {m : Nat} {P : q_Hp → Prop} (hc : q_mV m 253 [.ref x0, .int 4] h P) (hm : m ≤ n) (w : ∀ h1 : q_Hp, P h1 → q_wp (n + 1) 266 57 [some (.ref x0), some (.int x1), some (.int x2), some (.int x3), none] [] h1 Q) : q_wp (n + 1) 266 52 [some (.ref x0), some (.int x1), some (.int x2), some (.int x3), none] [] h Q := by
  refine wp_loc rfl rfl ?_
  refine wp_iconst (v := 4) rfl (by decide) ?_
  exact wp_callV (av := [.ref x0, .int 4]) rfl rfl rfl (by decide) rfl rfl rfl hm hc w
theorem b266_57 {n : Nat} {h : q_Hp} {Q : Option Value → q_Hp → Prop} {x0 : Nat} {x1 : Int32} {x2 : Int32} {x3 : Int32} (k0 : q_ok h x0 12) (wt : (qI h x0 13) ≤ 0 → q_wp n 266 65 [some (.ref x0), some (.int x1), some (.int x2), some (.int x3), none] [] h Q) (wf : ¬ (qI h x0 13) ≤ 0 → q_wp n 266 64 [some (.ref x0), some (.int x1), some (.int x2), some (.int x3), none] [] h Q) : q_wp n 266 57 [some (.ref x0), some (.int x1), some (.int x2), some (.int x3), none] [] h Q := by
  refine wp_loc rfl rfl ?_
  refine wp_getI rfl rfl rfl k0 ?_
  exact wp_ifle (tgt := 65) rfl (by decide) wt wf
theorem b266_64 {n : Nat} {h : q_Hp} {Q : Option Value → q_Hp → Prop} {x0 : Nat} {x1 : Int32} {x2 : Int32} {x3 : Int32} (q : Q none h) : q_wp n 266 64 [some (.ref x0), some (.int x1), some (.int x2), some (.int x3), none] [] h Q := by
  exact wp_ret rfl rfl q
theorem b266_65 {n : Nat} {h : q_Hp} {Q : Option Value → q_Hp → Prop} {x0 : Nat} {x1 : Int32} {x2 : Int32} {x3 : Int32} {m : Nat} {P : Int32 → q_Hp → Prop} (hc : q_mI m 255 [.ref x0, .int x3] h P) (hm : m ≤ n) (w : ∀ (z : Int32) (h1 : q_Hp), P z h1 → q_wp (n + 1) 266 70 [some (.ref x0), some (.int x1), some (.int x2), some (.int x3), none] [.int z] h1 Q) : q_wp (n + 1) 266 65 [some (.ref x0), some (.int x1), some (.int x2), some (.int x3), none] [] h Q := by
  refine wp_loc rfl rfl ?_
  refine wp_loc rfl rfl ?_
  exact wp_callI (av := [.ref x0, .int x3]) rfl rfl rfl (by decide) rfl rfl rfl hm hc w
theorem b266_70 {n : Nat} {h : q_Hp} {Q : Option Value → q_Hp → Prop} {x0 : Nat} {x1 : Int32} {x2 : Int32} {x3 : Int32} {s0 : Int32} {v0 : Nat} (k0 : q_ok h x0 12) (e0 : qR h x0 31 = v0) (k1 : q_ok h v0 20) (i0 : q_in x1 (qK h v0).2) {m : Nat} {P : q_Hp → Prop} (hc : q_mV m 258 [.ref x0, .int x2, .int 0, .int (qA h v0 x1.toNatClampNeg), .int s0] h P) (hm : m ≤ n) (w : ∀ h1 : q_Hp, P h1 → q_wp (n + 1) 266 86 [some (.ref x0), some (.int x1), some (.int x2), some (.int x3), some (.int s0)] [] h1 Q) : q_wp (n + 1) 266 70 [some (.ref x0), some (.int x1), some (.int x2), some (.int x3), none] [.int s0] h Q := by
  refine wp_loc rfl rfl ?_
  refine wp_loc rfl rfl ?_
  refine wp_loc rfl rfl ?_
  refine wp_iconst (v := 0) rfl (by decide) ?_
  refine wp_loc rfl rfl ?_
  refine wp_getR rfl rfl rfl rfl k0 e0 ?_
  refine wp_loc rfl rfl ?_
  refine wp_iald rfl k1 i0 ?_
  refine wp_loc rfl rfl ?_
  exact wp_callV (av := [.ref x0, .int x2, .int 0, .int (qA h v0 x1.toNatClampNeg), .int s0]) rfl rfl rfl (by decide) rfl rfl rfl hm hc w
theorem b266_86 {n : Nat} {h : q_Hp} {Q : Option Value → q_Hp → Prop} {x0 : Nat} {x1 : Int32} {x2 : Int32} {x3 : Int32} {x4 : Int32} {v0 : Nat} {v1 : Nat} (k0 : q_ok h x0 12) (e0 : qR h x0 34 = v0) (e1 : qR h x0 31 = v1) (k1 : q_ok h v1 20) (i0 : q_in x1 (qK h v1).2) (k2 : q_ok h v0 20) (i1 : q_in ((4 * x1) + (qA h v1 x1.toNatClampNeg)) (qK h v0).2) (q : Q none (q_sA (q_sA h v0 (((4 * x1) + (qA h v1 x1.toNatClampNeg) : Int32).toNatClampNeg) x4) v1 x1.toNatClampNeg ((qA (q_sA h v0 (((4 * x1) + (qA h v1 x1.toNatClampNeg) : Int32).toNatClampNeg) x4) v1 x1.toNatClampNeg) + 1))) : q_wp n 266 86 [some (.ref x0), some (.int x1), some (.int x2), some (.int x3), some (.int x4)] [] h Q := by
  refine wp_loc rfl rfl ?_
  refine wp_getR rfl rfl rfl rfl k0 e0 ?_
  refine wp_iconst (v := 4) rfl (by decide) ?_
  refine wp_loc rfl rfl ?_
  refine wp_stk rfl rfl rfl ?_
  refine wp_loc rfl rfl ?_
  refine wp_getR rfl rfl rfl rfl k0 e1 ?_
  refine wp_loc rfl rfl ?_
  refine wp_iald rfl k1 i0 ?_
  refine wp_stk rfl rfl rfl ?_
  refine wp_loc rfl rfl ?_
  refine wp_iast rfl k2 i1 ?_
  refine wp_loc rfl rfl ?_
  refine wp_getR rfl rfl rfl rfl k0 e1 ?_
  refine wp_loc rfl rfl ?_
  refine wp_stk rfl rfl rfl ?_
  refine wp_iald rfl k1 i0 ?_
  refine wp_iconst (v := 1) rfl (by decide) ?_
  refine wp_stk rfl rfl rfl ?_
  refine wp_iast rfl k1 i0 ?_
  exact wp_ret rfl rfl q
theorem b267_0 {n : Nat} {h : q_Hp} {Q : Option Value → q_Hp → Prop} {x0 : Nat} {x1 : Int32} {m : Nat} {P : Int32 → q_Hp → Prop} (hc : q_mI m 257 [.ref x0, .int x1] h P) (hm : m ≤ n) (w : ∀ (z : Int32) (h1 : q_Hp), P z h1 → q_wp (n + 1) 267 5 [some (.ref x0), some (.int x1), none] [.int z] h1 Q) : q_wp (n + 1) 267 0 [some (.ref x0), some (.int x1), none] [] h Q := by
  refine wp_loc rfl rfl ?_
  refine wp_loc rfl rfl ?_
  exact wp_callI (av := [.ref x0, .int x1]) rfl rfl rfl (by decide) rfl rfl rfl hm hc w
theorem b267_5 {n : Nat} {h : q_Hp} {Q : Option Value → q_Hp → Prop} {x0 : Nat} {x1 : Int32} {s0 : Int32} (wt : s0 = (-1) → q_wp n 267 20 [some (.ref x0), some (.int x1), some (.int s0)] [] h Q) (wf : ¬ s0 = (-1) → q_wp n 267 11 [some (.ref x0), some (.int x1), some (.int s0)] [] h Q) : q_wp n 267 5 [some (.ref x0), some (.int x1), none] [.int s0] h Q := by
  refine wp_loc rfl rfl ?_
  refine wp_loc rfl rfl ?_
  refine wp_iconst (v := (-1)) rfl (by decide) ?_
  exact wp_iceq (tgt := 20) rfl (by decide) wt wf
theorem b267_11 {n : Nat} {h : q_Hp} {Q : Option Value → q_Hp → Prop} {x0 : Nat} {x1 : Int32} {x2 : Int32} {v0 : Nat} (k0 : q_ok h x0 12) (e0 : qR h x0 70 = v0) (k1 : q_ok h v0 20) (i0 : q_in x2 (qK h v0).2) (wt : (qA h v0 x2.toNatClampNeg) = 0 → q_wp n 267 28 [some (.ref x0), some (.int x1), some (.int x2)] [] h Q) (wf : ¬ (qA h v0 x2.toNatClampNeg) = 0 → q_wp n 267 20 [some (.ref x0), some (.int x1), some (.int x2)] [] h Q) : q_wp n 267 11 [some (.ref x0), some (.int x1), some (.int x2)] [] h Q := by
  refine wp_loc rfl rfl ?_
  refine wp_getR rfl rfl rfl rfl k0 e0 ?_
  refine wp_loc rfl rfl ?_
  refine wp_iald rfl k1 i0 ?_
  exact wp_ifeq (tgt := 28) rfl (by decide) wt wf
theorem b267_20 {n : Nat} {h : q_Hp} {Q : Option Value → q_Hp → Prop} {x0 : Nat} {x1 : Int32} {x2 : Int32} {m : Nat} {P : q_Hp → Prop} (hc : q_mV m 251 [.ref x0, .int 4, .int x1] h P) (hm : m ≤ n) (w : ∀ h1 : q_Hp, P h1 → q_wp (n + 1) 267 26 [some (.ref x0), some (.int x1), some (.int x2)] [] h1 Q) : q_wp (n + 1) 267 20 [some (.ref x0), some (.int x1), some (.int x2)] [] h Q := by
  refine wp_loc rfl rfl ?_
  refine wp_iconst (v := 4) rfl (by decide) ?_
  refine wp_loc rfl rfl ?_
  exact wp_callV (av := [.ref x0, .int 4, .int x1]) rfl rfl rfl (by decide) rfl rfl rfl hm hc w
theorem b267_26 {n : Nat} {h : q_Hp} {Q : Option Value → q_Hp → Prop} {x0 : Nat} {x1 : Int32} {x2 : Int32} (q : Q (some (.int (-1))) h) : q_wp n 267 26 [some (.ref x0), some (.int x1), some (.int x2)] [] h Q := by
  refine wp_iconst (v := (-1)) rfl (by decide) ?_
  exact wp_ret rfl rfl q
theorem b267_28 {n : Nat} {h : q_Hp} {Q : Option Value → q_Hp → Prop} {x0 : Nat} {x1 : Int32} {x2 : Int32} {v0 : Nat} (k0 : q_ok h x0 12) (e0 : qR h x0 71 = v0) (k1 : q_ok h v0 20) (i0 : q_in x2 (qK h v0).2) (q : Q (some (.int (qA h v0 x2.toNatClampNeg))) h) : q_wp n 267 28 [some (.ref x0), some (.int x1), some (.int x2)] [] h Q := by
  refine wp_loc rfl rfl ?_
  refine wp_getR rfl rfl rfl rfl k0 e0 ?_
  refine wp_loc rfl rfl ?_
  refine wp_iald rfl k1 i0 ?_
  exact wp_ret rfl rfl q
theorem b268_0 {n : Nat} {h : q_Hp} {Q : Option Value → q_Hp → Prop} {x0 : Nat} {x1 : Int32} {m : Nat} {P : q_Hp → Prop} (hc : q_mV m 252 [.ref x0] h P) (hm : m ≤ n) (w : ∀ h1 : q_Hp, P h1 → q_wp (n + 1) 268 4 [some (.ref x0), some (.int x1), none, none, none, none, none] [] h1 Q) : q_wp (n + 1) 268 0 [some (.ref x0), some (.int x1), none, none, none, none, none] [] h Q := by
  refine wp_loc rfl rfl ?_
  exact wp_callV (av := [.ref x0]) rfl rfl rfl (by decide) rfl rfl rfl hm hc w
theorem b268_4 {n : Nat} {h : q_Hp} {Q : Option Value → q_Hp → Prop} {x0 : Nat} {x1 : Int32} (k0 : q_ok h x0 12) {m : Nat} {P : Int32 → q_Hp → Prop} (hc : q_mI m 249 [.ref x0, .int 1] h P) (hm : m ≤ n) (w : ∀ (z : Int32) (h1 : q_Hp), P z h1 → q_wp (n + 1) 268 14 [some (.ref x0), some (.int x1), some (.int (qI h x0 11)), none, none, none, none] [.int z] h1 Q) : q_wp (n + 1) 268 4 [some (.ref x0), some (.int x1), none, none, none, none, none] [] h Q := by
  refine wp_loc rfl rfl ?_
  refine wp_getI rfl rfl rfl k0 ?_
  refine wp_loc rfl rfl ?_
  refine wp_loc rfl rfl ?_
  refine wp_iconst (v := 1) rfl (by decide) ?_
  exact wp_callI (av := [.ref x0, .int 1]) rfl rfl rfl (by decide) rfl rfl rfl hm hc w
theorem b268_14 {n : Nat} {h : q_Hp} {Q : Option Value → q_Hp → Prop} {x0 : Nat} {x1 : Int32} {x2 : Int32} {s0 : Int32} (wt : s0 = 0 → q_wp n 268 33 [some (.ref x0), some (.int x1), some (.int x2), none, none, none, none] [] h Q) (wf : ¬ s0 = 0 → q_wp n 268 17 [some (.ref x0), some (.int x1), some (.int x2), none, none, none, none] [] h Q) : q_wp n 268 14 [some (.ref x0), some (.int x1), some (.int x2), none, none, none, none] [.int s0] h Q := by
  exact wp_ifeq (tgt := 33) rfl (by decide) wt wf
theorem b268_17 {n : Nat} {h : q_Hp} {Q : Option Value → q_Hp → Prop} {x0 : Nat} {x1 : Int32} {x2 : Int32} {v0 : Nat} (k0 : q_ok h x0 12) (e0 : qR h x0 32 = v0) (k1 : q_ok h v0 20) (i0 : q_in x1 (qK h v0).2) (wt : ¬ (qA h v0 x1.toNatClampNeg) = 6 → q_wp n 268 33 [some (.ref x0), some (.int x1), some (.int x2), none, none, none, none] [] h Q) (wf : (qA h v0 x1.toNatClampNeg) = 6 → q_wp n 268 28 [some (.ref x0), some (.int x1), some (.int x2), none, none, none, none] [] h Q) : q_wp n 268 17 [some (.ref x0), some (.int x1), some (.int x2), none, none, none, none] [] h Q := by
  refine wp_loc rfl rfl ?_
  refine wp_getR rfl rfl rfl rfl k0 e0 ?_
  refine wp_loc rfl rfl ?_
  refine wp_iald rfl k1 i0 ?_
  refine wp_bipush (v := 6) rfl (by decide) ?_
  exact wp_icne (tgt := 33) rfl (by decide) wt wf
theorem b268_28 {n : Nat} {h : q_Hp} {Q : Option Value → q_Hp → Prop} {x0 : Nat} {x1 : Int32} {x2 : Int32} {m : Nat} {P : q_Hp → Prop} (hc : q_mV m 250 [.ref x0, .int 2] h P) (hm : m ≤ n) (w : ∀ h1 : q_Hp, P h1 → q_wp (n + 1) 268 33 [some (.ref x0), some (.int x1), some (.int x2), none, none, none, none] [] h1 Q) : q_wp (n + 1) 268 28 [some (.ref x0), some (.int x1), some (.int x2), none, none, none, none] [] h Q := by
  refine wp_loc rfl rfl ?_
  refine wp_iconst (v := 2) rfl (by decide) ?_
  exact wp_callV (av := [.ref x0, .int 2]) rfl rfl rfl (by decide) rfl rfl rfl hm hc w
theorem b268_33 {n : Nat} {h : q_Hp} {Q : Option Value → q_Hp → Prop} {x0 : Nat} {x1 : Int32} {x2 : Int32} {m : Nat} {P : q_Hp → Prop} (hc : q_mV m 253 [.ref x0, .int 1] h P) (hm : m ≤ n) (w : ∀ h1 : q_Hp, P h1 → q_wp (n + 1) 268 38 [some (.ref x0), some (.int x1), some (.int x2), none, none, none, none] [] h1 Q) : q_wp (n + 1) 268 33 [some (.ref x0), some (.int x1), some (.int x2), none, none, none, none] [] h Q := by
  refine wp_loc rfl rfl ?_
  refine wp_iconst (v := 1) rfl (by decide) ?_
  exact wp_callV (av := [.ref x0, .int 1]) rfl rfl rfl (by decide) rfl rfl rfl hm hc w
theorem b268_38 {n : Nat} {h : q_Hp} {Q : Option Value → q_Hp → Prop} {x0 : Nat} {x1 : Int32} {x2 : Int32} {m : Nat} {P : q_Hp → Prop} (hc : q_mV m 253 [.ref x0, .int 5] h P) (hm : m ≤ n) (w : ∀ h1 : q_Hp, P h1 → q_wp (n + 1) 268 43 [some (.ref x0), some (.int x1), some (.int x2), none, none, none, none] [] h1 Q) : q_wp (n + 1) 268 38 [some (.ref x0), some (.int x1), some (.int x2), none, none, none, none] [] h Q := by
  refine wp_loc rfl rfl ?_
  refine wp_iconst (v := 5) rfl (by decide) ?_
  exact wp_callV (av := [.ref x0, .int 5]) rfl rfl rfl (by decide) rfl rfl rfl hm hc w
theorem b268_43 {n : Nat} {h : q_Hp} {Q : Option Value → q_Hp → Prop} {x0 : Nat} {x1 : Int32} {x2 : Int32} (k0 : q_ok h x0 12) {m : Nat} {P : q_Hp → Prop} (hc : q_mV m 253 [.ref x0, .int 1] h P) (hm : m ≤ n) (w : ∀ h1 : q_Hp, P h1 → q_wp (n + 1) 268 53 [some (.ref x0), some (.int x1), some (.int x2), some (.int (qI h x0 11)), none, none, none] [] h1 Q) : q_wp (n + 1) 268 43 [some (.ref x0), some (.int x1), some (.int x2), none, none, none, none] [] h Q := by
  refine wp_loc rfl rfl ?_
  refine wp_getI rfl rfl rfl k0 ?_
  refine wp_loc rfl rfl ?_
  refine wp_loc rfl rfl ?_
  refine wp_iconst (v := 1) rfl (by decide) ?_
  exact wp_callV (av := [.ref x0, .int 1]) rfl rfl rfl (by decide) rfl rfl rfl hm hc w
theorem b268_53 {n : Nat} {h : q_Hp} {Q : Option Value → q_Hp → Prop} {x0 : Nat} {x1 : Int32} {x2 : Int32} {x3 : Int32} {m : Nat} {P : q_Hp → Prop} (hc : q_mV m 253 [.ref x0, .int 14] h P) (hm : m ≤ n) (w : ∀ h1 : q_Hp, P h1 → q_wp (n + 1) 268 59 [some (.ref x0), some (.int x1), some (.int x2), some (.int x3), none, none, none] [] h1 Q) : q_wp (n + 1) 268 53 [some (.ref x0), some (.int x1), some (.int x2), some (.int x3), none, none, none] [] h Q := by
  refine wp_loc rfl rfl ?_
  refine wp_bipush (v := 14) rfl (by decide) ?_
  exact wp_callV (av := [.ref x0, .int 14]) rfl rfl rfl (by decide) rfl rfl rfl hm hc w
theorem b268_59 {n : Nat} {h : q_Hp} {Q : Option Value → q_Hp → Prop} {x0 : Nat} {x1 : Int32} {x2 : Int32} {x3 : Int32} (k0 : q_ok h x0 12) {m : Nat} {P : q_Hp → Prop} (hc : q_mV m 253 [.ref x0, .int 1] h P) (hm : m ≤ n) (w : ∀ h1 : q_Hp, P h1 → q_wp (n + 1) 268 70 [some (.ref x0), some (.int x1), some (.int x2), some (.int x3), some (.int (qI h x0 11)), none, none] [] h1 Q) : q_wp (n + 1) 268 59 [some (.ref x0), some (.int x1), some (.int x2), some (.int x3), none, none, none] [] h Q := by
  refine wp_loc rfl rfl ?_
  refine wp_getI rfl rfl rfl k0 ?_
  refine wp_loc rfl rfl ?_
  refine wp_loc rfl rfl ?_
  refine wp_iconst (v := 1) rfl (by decide) ?_
  exact wp_callV (av := [.ref x0, .int 1]) rfl rfl rfl (by decide) rfl rfl rfl hm hc w
theorem b268_70 {n : Nat} {h : q_Hp} {Q : Option Value → q_Hp → Prop} {x0 : Nat} {x1 : Int32} {x2 : Int32} {x3 : Int32} {x4 : Int32} {m : Nat} {P : q_Hp → Prop} (hc : q_mV m 253 [.ref x0, .int 18] h P) (hm : m ≤ n) (w : ∀ h1 : q_Hp, P h1 → q_wp (n + 1) 268 76 [some (.ref x0), some (.int x1), some (.int x2), some (.int x3), some (.int x4), none, none] [] h1 Q) : q_wp (n + 1) 268 70 [some (.ref x0), some (.int x1), some (.int x2), some (.int x3), some (.int x4), none, none] [] h Q := by
  refine wp_loc rfl rfl ?_
  refine wp_bipush (v := 18) rfl (by decide) ?_
  exact wp_callV (av := [.ref x0, .int 18]) rfl rfl rfl (by decide) rfl rfl rfl hm hc w
theorem b268_76 {n : Nat} {h : q_Hp} {Q : Option Value → q_Hp → Prop} {x0 : Nat} {x1 : Int32} {x2 : Int32} {x3 : Int32} {x4 : Int32} (k0 : q_ok h x0 12) {m : Nat} {P : q_Hp → Prop} (hc : q_mV m 253 [.ref x0, .int 1] h P) (hm : m ≤ n) (w : ∀ h1 : q_Hp, P h1 → q_wp (n + 1) 268 87 [some (.ref x0), some (.int x1), some (.int x2), some (.int x3), some (.int x4), some (.int (qI h x0 11)), none] [] h1 Q) : q_wp (n + 1) 268 76 [some (.ref x0), some (.int x1), some (.int x2), some (.int x3), some (.int x4), none, none] [] h Q := by
  refine wp_loc rfl rfl ?_
  refine wp_getI rfl rfl rfl k0 ?_
  refine wp_loc rfl rfl ?_
  refine wp_loc rfl rfl ?_
  refine wp_iconst (v := 1) rfl (by decide) ?_
  exact wp_callV (av := [.ref x0, .int 1]) rfl rfl rfl (by decide) rfl rfl rfl hm hc w
theorem b268_87 {n : Nat} {h : q_Hp} {Q : Option Value → q_Hp → Prop} {x0 : Nat} {x1 : Int32} {x2 : Int32} {x3 : Int32} {x4 : Int32} {x5 : Int32} {m : Nat} {P : q_Hp → Prop} (hc : q_mV m 253 [.ref x0, .int 4] h P) (hm : m ≤ n) (w : ∀ h1 : q_Hp, P h1 → q_wp (n + 1) 268 92 [some (.ref x0), some (.int x1), some (.int x2), some (.int x3), some (.int x4), some (.int x5), none] [] h1 Q) : q_wp (n + 1) 268 87 [some (.ref x0), some (.int x1), some (.int x2), some (.int x3), some (.int x4), some (.int x5), none] [] h Q := by
  refine wp_loc rfl rfl ?_
  refine wp_iconst (v := 4) rfl (by decide) ?_
  exact wp_callV (av := [.ref x0, .int 4]) rfl rfl rfl (by decide) rfl rfl rfl hm hc w
theorem b268_92 {n : Nat} {h : q_Hp} {Q : Option Value → q_Hp → Prop} {x0 : Nat} {x1 : Int32} {x2 : Int32} {x3 : Int32} {x4 : Int32} {x5 : Int32} (k0 : q_ok h x0 12) (wt : (qI h x0 13) ≤ 0 → q_wp n 268 100 [some (.ref x0), some (.int x1), some (.int x2), some (.int x3), some (.int x4), some (.int x5), none] [] h Q) (wf : ¬ (qI h x0 13) ≤ 0 → q_wp n 268 99 [some (.ref x0), some (.int x1), some (.int x2), some (.int x3), some (.int x4), some (.int x5), none] [] h Q) : q_wp n 268 92 [some (.ref x0), some (.int x1), some (.int x2), some (.int x3), some (.int x4), some (.int x5), none] [] h Q := by
  refine wp_loc rfl rfl ?_
  refine wp_getI rfl rfl rfl k0 ?_
  exact wp_ifle (tgt := 100) rfl (by decide) wt wf
theorem b268_99 {n : Nat} {h : q_Hp} {Q : Option Value → q_Hp → Prop} {x0 : Nat} {x1 : Int32} {x2 : Int32} {x3 : Int32} {x4 : Int32} {x5 : Int32} (q : Q none h) : q_wp n 268 99 [some (.ref x0), some (.int x1), some (.int x2), some (.int x3), some (.int x4), some (.int x5), none] [] h Q := by
  exact wp_ret rfl rfl q
theorem b268_100 {n : Nat} {h : q_Hp} {Q : Option Value → q_Hp → Prop} {x0 : Nat} {x1 : Int32} {x2 : Int32} {x3 : Int32} {x4 : Int32} {x5 : Int32} {v0 : Nat} {v1 : Nat} (k0 : q_ok h x0 12) (e0 : qR h x0 32 = v0) (k1 : q_ok h v0 20) (i0 : q_in x1 (qK h v0).2) (e1 : qR h x0 36 = v1) {m : Nat} {P : Int32 → q_Hp → Prop} (hc : q_mI m 267 [.ref x0, .int x3] h P) (hm : m ≤ n) (w : ∀ (z : Int32) (h1 : q_Hp), P z h1 → q_wp (n + 1) 268 124 [some (.ref x0), some (.int x1), some (.int x2), some (.int x3), some (.int x4), some (.int x5), some (.int ((6 * x1) + (qA h v0 x1.toNatClampNeg)))] [.int z, .int ((6 * x1) + (qA h v0 x1.toNatClampNeg)), .ref v1] h1 Q) : q_wp (n + 1) 268 100 [some (.ref x0), some (.int x1), some (.int x2), some (.int x3), some (.int x4), some (.int x5), none] [] h Q := by
  refine wp_bipush (v := 6) rfl (by decide) ?_
  refine wp_loc rfl rfl ?_
  refine wp_stk rfl rfl rfl ?_
  refine wp_loc rfl rfl ?_
  refine wp_getR rfl rfl rfl rfl k0 e0 ?_
  refine wp_loc rfl rfl ?_
  refine wp_iald rfl k1 i0 ?_
  refine wp_stk rfl rfl rfl ?_
  refine wp_loc rfl rfl ?_
  refine wp_loc rfl rfl ?_
  refine wp_getR rfl rfl rfl rfl k0 e1 ?_
  refine wp_loc rfl rfl ?_
  refine wp_loc rfl rfl ?_
  refine wp_loc rfl rfl ?_
  exact wp_callI (av := [.ref x0, .int x3]) rfl rfl rfl (by decide) rfl rfl rfl hm hc w
theorem b268_124 {n : Nat} {h : q_Hp} {Q : Option Value → q_Hp → Prop} {x0 : Nat} {x1 : Int32} {x2 : Int32} {x3 : Int32} {x4 : Int32} {x5 : Int32} {x6 : Int32} {s0 : Int32} {s1 : Int32} {s2 : Nat} {v0 : Nat} (k0 : q_ok h s2 20) (i0 : q_in s1 (qK h s2).2) (k1 : q_ok h x0 12) (e0 : qR h x0 35 = v0) {m : Nat} {P : Int32 → q_Hp → Prop} (hc : q_mI m 256 [.ref x0, .int x4] (q_sA h s2 s1.toNatClampNeg s0) P) (hm : m ≤ n) (w : ∀ (z : Int32) (h1 : q_Hp), P z h1 → q_wp (n + 1) 268 137 [some (.ref x0), some (.int x1), some (.int x2), some (.int x3), some (.int x4), some (.int x5), some (.int x6)] [.int z, .int x6, .ref v0] h1 Q) : q_wp (n + 1) 268 124 [some (.ref x0), some (.int x1), some (.int x2), some (.int x3), some (.int x4), some (.int x5), some (.int x6)] [.int s0, .int s1, .ref s2] h Q := by
  refine wp_iast rfl k0 i0 ?_
  refine wp_loc rfl rfl ?_
  refine wp_getR rfl rfl rfl rfl k1 e0 ?_
  refine wp_loc rfl rfl ?_
  refine wp_loc rfl rfl ?_
  refine wp_loc rfl rfl ?_
  exact wp_callI (av := [.ref x0, .int x4]) rfl rfl rfl (by decide) rfl rfl rfl hm hc w
theorem b268_137 {n : Nat} {h : q_Hp} {Q : Option Value → q_Hp → Prop} {x0 : Nat} {x1 : Int32} {x2 : Int32} {x3 : Int32} {x4 : Int32} {x5 : Int32} {x6 : Int32} {s0 : Int32} {s1 : Int32} {s2 : Nat} {v0 : Nat} (k0 : q_ok h s2 20) (i0 : q_in s1 (qK h s2).2) (k1 : q_ok h x0 12) (e0 : qR h x0 37 = v0) {m : Nat} {P : Int32 → q_Hp → Prop} (hc : q_mI m 267 [.ref x0, .int x5] (q_sA h s2 s1.toNatClampNeg s0) P) (hm : m ≤ n) (w : ∀ (z : Int32) (h1 : q_Hp), P z h1 → q_wp (n + 1) 268 150 [some (.ref x0), some (.int x1), some (.int x2), some (.int x3), some (.int x4), some (.int x5), some (.int x6)] [.int z, .int x6, .ref v0] h1 Q) : q_wp (n + 1) 268 137 [some (.ref x0), some (.int x1), some (.int x2), some (.int x3), some (.int x4), some (.int x5), some (.int x6)] [.int s0, .int s1, .ref s2] h Q := by
  refine wp_iast rfl k0 i0 ?_
  refine wp_loc rfl rfl ?_
  refine wp_getR rfl rfl rfl rfl k1 e0 ?_
  refine wp_loc rfl rfl ?_
  refine wp_loc rfl rfl ?_
  refine wp_loc rfl rfl ?_
  exact wp_callI (av := [.ref x0, .int x5]) rfl rfl rfl (by decide) rfl rfl rfl hm hc w
theorem b268_150 {n : Nat} {h : q_Hp} {Q : Option Value → q_Hp → Prop} {x0 : Nat} {x1 : Int32} {x2 : Int32} {x3 : Int32} {x4 : Int32} {x5 : Int32} {x6 : Int32} {s0 : Int32} {s1 : Int32} {s2 : Nat} {v0 : Nat} (k0 : q_ok h s2 20) (i0 : q_in s1 (qK h s2).2) (k1 : q_ok h x0 12) (e0 : qR h x0 32 = v0) (k2 : q_ok h v0 20) (i1 : q_in x1 (qK h v0).2) {m : Nat} {P : q_Hp → Prop} (hc : q_mV m 258 [.ref x0, .int x2, .int 1, .int (qA (q_sA h s2 s1.toNatClampNeg s0) v0 x1.toNatClampNeg), .int (-1)] (q_sA h s2 s1.toNatClampNeg s0) P) (hm : m ≤ n) (w : ∀ h1 : q_Hp, P h1 → q_wp (n + 1) 268 164 [some (.ref x0), some (.int x1), some (.int x2), some (.int x3), some (.int x4), some (.int x5), some (.int x6)] [] h1 Q) : q_wp (n + 1) 268 150 [some (.ref x0), some (.int x1), some (.int x2), some (.int x3), some (.int x4), some (.int x5), some (.int x6)] [.int s0, .int s1, .ref s2] h Q := by
  refine wp_iast rfl k0 i0 ?_
  refine wp_loc rfl rfl ?_
  refine wp_loc rfl rfl ?_
  refine wp_iconst (v := 1) rfl (by decide) ?_
  refine wp_loc rfl rfl ?_
  refine wp_getR rfl rfl rfl rfl k1 e0 ?_
  refine wp_loc rfl rfl ?_
  refine wp_iald rfl k2 i1 ?_
  refine wp_iconst (v := (-1)) rfl (by decide) ?_
  exact wp_callV (av := [.ref x0, .int x2, .int 1, .int (qA (q_sA h s2 s1.toNatClampNeg s0) v0 x1.toNatClampNeg), .int (-1)]) rfl rfl rfl (by decide) rfl rfl rfl hm hc w
theorem b268_164 {n : Nat} {h : q_Hp} {Q : Option Value → q_Hp → Prop} {x0 : Nat} {x1 : Int32} {x2 : Int32} {x3 : Int32} {x4 : Int32} {x5 : Int32} {x6 : Int32} {v0 : Nat} (k0 : q_ok h x0 12) (e0 : qR h x0 32 = v0) (k1 : q_ok h v0 20) (i0 : q_in x1 (qK h v0).2) (q : Q none (q_sA h v0 x1.toNatClampNeg ((qA h v0 x1.toNatClampNeg) + 1))) : q_wp n 268 164 [some (.ref x0), some (.int x1), some (.int x2), some (.int x3), some (.int x4), some (.int x5), some (.int x6)] [] h Q := by
  refine wp_loc rfl rfl ?_
  refine wp_getR rfl rfl rfl rfl k0 e0 ?_
  refine wp_loc rfl rfl ?_
  refine wp_stk rfl rfl rfl ?_
  refine wp_iald rfl k1 i0 ?_
  refine wp_iconst (v := 1) rfl (by decide) ?_
  refine wp_stk rfl rfl rfl ?_
  refine wp_iast rfl k1 i0 ?_
  exact wp_ret rfl rfl q
set_option maxRecDepth 20000 in
theorem b269_0 {n : Nat} {h : q_Hp} {Q : Option Value → q_Hp → Prop} {x0 : Nat} {x1 : Int32} {v0 : Nat} (k0 : q_ok h x0 12) (e0 : qR h x0 38 = v0) (k1 : q_ok h v0 20) (i0 : q_in x1 (qK h v0).2) (wt : ¬ (qA h v0 x1.toNatClampNeg) = 2 → q_wp n 269 15 [some (.ref x0), some (.int x1), none, none, none, none, none, none, none, none, none] [] h Q) (wf : (qA h v0 x1.toNatClampNeg) = 2 → q_wp n 269 10 [some (.ref x0), some (.int x1), none, none, none, none, none, none, none, none, none] [] h Q) : q_wp n 269 0 [some (.ref x0), some (.int x1), none, none, none, none, none, none, none, none, none] [] h Q := by
  refine wp_loc rfl rfl ?_
  refine wp_getR rfl rfl rfl rfl k0 e0 ?_
  refine wp_loc rfl rfl ?_
  refine wp_iald rfl k1 i0 ?_
  refine wp_iconst (v := 2) rfl (by decide) ?_
  exact wp_icne (tgt := 15) rfl (by decide) wt wf
set_option maxRecDepth 20000 in
theorem b269_10 {n : Nat} {h : q_Hp} {Q : Option Value → q_Hp → Prop} {x0 : Nat} {x1 : Int32} {m : Nat} {P : q_Hp → Prop} (hc : q_mV m 250 [.ref x0, .int 2] h P) (hm : m ≤ n) (w : ∀ h1 : q_Hp, P h1 → q_wp (n + 1) 269 15 [some (.ref x0), some (.int x1), none, none, none, none, none, none, none, none, none] [] h1 Q) : q_wp (n + 1) 269 10 [some (.ref x0), some (.int x1), none, none, none, none, none, none, none, none, none] [] h Q := by
  refine wp_loc rfl rfl ?_
  refine wp_iconst (v := 2) rfl (by decide) ?_
  exact wp_callV (av := [.ref x0, .int 2]) rfl rfl rfl (by decide) rfl rfl rfl hm hc w
set_option maxRecDepth 20000 in
theorem b269_15 {n : Nat} {h : q_Hp} {Q : Option Value → q_Hp → Prop} {x0 : Nat} {x1 : Int32} {m : Nat} {P : q_Hp → Prop} (hc : q_mV m 252 [.ref x0] h P) (hm : m ≤ n) (w : ∀ h1 : q_Hp, P h1 → q_wp (n + 1) 269 19 [some (.ref x0), some (.int x1), none, none, none, none, none, none, none, none, none] [] h1 Q) : q_wp (n + 1) 269 15 [some (.ref x0), some (.int x1), none, none, none, none, none, none, none, none, none] [] h Q := by
  refine wp_loc rfl rfl ?_
  exact wp_callV (av := [.ref x0]) rfl rfl rfl (by decide) rfl rfl rfl hm hc w
set_option maxRecDepth 20000 in
theorem b269_19 {n : Nat} {h : q_Hp} {Q : Option Value → q_Hp → Prop} {x0 : Nat} {x1 : Int32} {v0 : Nat} (k0 : q_ok h x0 12) (e0 : qR h x0 38 = v0) (k1 : q_ok h v0 20) (i0 : q_in x1 (qK h v0).2) (wt : (qI h x0 13) ≤ 0 → q_wp n 269 43 [some (.ref x0), some (.int x1), some (.int (qI h x0 68)), some (.int ((2 * x1) + (qA h v0 x1.toNatClampNeg))), none, none, none, none, none, none, none] [] h Q) (wf : ¬ (qI h x0 13) ≤ 0 → q_wp n 269 42 [some (.ref x0), some (.int x1), some (.int (qI h x0 68)), some (.int ((2 * x1) + (qA h v0 x1.toNatClampNeg))), none, none, none, none, none, none, none] [] h Q) : q_wp n 269 19 [some (.ref x0), some (.int x1), none, none, none, none, none, none, none, none, none] [] h Q := by
  refine wp_loc rfl rfl ?_
  refine wp_getI rfl rfl rfl k0 ?_
  refine wp_loc rfl rfl ?_
  refine wp_iconst (v := 2) rfl (by decide) ?_
  refine wp_loc rfl rfl ?_
  refine wp_stk rfl rfl rfl ?_
  refine wp_loc rfl rfl ?_
  refine wp_getR rfl rfl rfl rfl k0 e0 ?_
  refine wp_loc rfl rfl ?_
  refine wp_iald rfl k1 i0 ?_
  refine wp_stk rfl rfl rfl ?_
  refine wp_loc rfl rfl ?_
  refine wp_loc rfl rfl ?_
  refine wp_getI rfl rfl rfl k0 ?_
  exact wp_ifle (tgt := 43) rfl (by decide) wt wf
set_option maxRecDepth 20000 in
theorem b269_42 {n : Nat} {h : q_Hp} {Q : Option Value → q_Hp → Prop} {x0 : Nat} {x1 : Int32} {x2 : Int32} {x3 : Int32} (q : Q none h) : q_wp n 269 42 [some (.ref x0), some (.int x1), some (.int x2), some (.int x3), none, none, none, none, none, none, none] [] h Q := by
  exact wp_ret rfl rfl q
set_option maxRecDepth 20000 in
theorem b269_43 {n : Nat} {h : q_Hp} {Q : Option Value → q_Hp → Prop} {x0 : Nat} {x1 : Int32} {x2 : Int32} {x3 : Int32} {v0 : Nat} {v1 : Nat} {v2 : Nat} (k0 : q_ok h x0 12) (e0 : qR h x0 38 = v0) (k1 : q_ok h v0 20) (i0 : q_in x1 (qK h v0).2) (e1 : qR h x0 39 = v1) (k2 : q_ok h v1 20) (i1 : q_in x3 (qK h v1).2) (e2 : qR h x0 40 = v2) (k3 : q_ok h v2 20) (i2 : q_in x3 (qK h v2).2) (w : q_wp n 269 70 [some (.ref x0), some (.int x1), some (.int x2), some (.int x3), some (.int 0), none, none, none, none, none, none] [] (q_sA (q_sA (q_sA h v0 x1.toNatClampNeg ((qA h v0 x1.toNatClampNeg) + 1)) v1 x3.toNatClampNeg (-1)) v2 x3.toNatClampNeg 0) Q) : q_wp n 269 43 [some (.ref x0), some (.int x1), some (.int x2), some (.int x3), none, none, none, none, none, none, none] [] h Q := by
  refine wp_loc rfl rfl ?_
  refine wp_getR rfl rfl rfl rfl k0 e0 ?_
  refine wp_loc rfl rfl ?_
  refine wp_stk rfl rfl rfl ?_
  refine wp_iald rfl k1 i0 ?_
  refine wp_iconst (v := 1) rfl (by decide) ?_
  refine wp_stk rfl rfl rfl ?_
  refine wp_iast rfl k1 i0 ?_
  refine wp_loc rfl rfl ?_
  refine wp_getR rfl rfl rfl rfl k0 e1 ?_
  refine wp_loc rfl rfl ?_
  refine wp_iconst (v := (-1)) rfl (by decide) ?_
  refine wp_iast rfl k2 i1 ?_
  refine wp_loc rfl rfl ?_
  refine wp_getR rfl rfl rfl rfl k0 e2 ?_
  refine wp_loc rfl rfl ?_
  refine wp_iconst (v := 0) rfl (by decide) ?_
  refine wp_iast rfl k3 i2 ?_
  refine wp_iconst (v := 0) rfl (by decide) ?_
  refine wp_loc rfl rfl ?_
  exact w
set_option maxRecDepth 20000 in
theorem b269_70 {n : Nat} {h : q_Hp} {Q : Option Value → q_Hp → Prop} {x0 : Nat} {x1 : Int32} {x2 : Int32} {x3 : Int32} {x4 : Int32} {l5 : Option Value} {l6 : Option Value} {l7 : Option Value} {l8 : Option Value} {l9 : Option Value} {l10 : Option Value} {m : Nat} {P : Int32 → q_Hp → Prop} (hc : q_mI m 249 [.ref x0, .int 25] h P) (hm : m ≤ n) (w : ∀ (z : Int32) (h1 : q_Hp), P z h1 → q_wp (n + 1) 269 76 [some (.ref x0), some (.int x1), some (.int x2), some (.int x3), some (.int x4), l5, l6, l7, l8, l9, l10] [.int z] h1 Q) : q_wp (n + 1) 269 70 [some (.ref x0), some (.int x1), some (.int x2), some (.int x3), some (.int x4), l5, l6, l7, l8, l9, l10] [] h Q := by
  refine wp_loc rfl rfl ?_
  refine wp_bipush (v := 25) rfl (by decide) ?_
  exact wp_callI (av := [.ref x0, .int 25]) rfl rfl rfl (by decide) rfl rfl rfl hm hc w
set_option maxRecDepth 20000 in
theorem b269_76 {n : Nat} {h : q_Hp} {Q : Option Value → q_Hp → Prop} {x0 : Nat} {x1 : Int32} {x2 : Int32} {x3 : Int32} {x4 : Int32} {l5 : Option Value} {l6 : Option Value} {l7 : Option Value} {l8 : Option Value} {l9 : Option Value} {l10 : Option Value} {s0 : Int32} (wt : ¬ s0 = 0 → q_wp n 269 88 [some (.ref x0), some (.int x1), some (.int x2), some (.int x3), some (.int x4), l5, l6, l7, l8, l9, l10] [] h Q) (wf : s0 = 0 → q_wp n 269 79 [some (.ref x0), some (.int x1), some (.int x2), some (.int x3), some (.int x4), l5, l6, l7, l8, l9, l10] [] h Q) : q_wp n 269 76 [some (.ref x0), some (.int x1), some (.int x2), some (.int x3), some (.int x4), l5, l6, l7, l8, l9, l10] [.int s0] h Q := by
  exact wp_ifne (tgt := 88) rfl (by decide) wt wf
set_option maxRecDepth 20000 in
theorem b269_79 {n : Nat} {h : q_Hp} {Q : Option Value → q_Hp → Prop} {x0 : Nat} {x1 : Int32} {x2 : Int32} {x3 : Int32} {x4 : Int32} {l5 : Option Value} {l6 : Option Value} {l7 : Option Value} {l8 : Option Value} {l9 : Option Value} {l10 : Option Value} {m : Nat} {P : Int32 → q_Hp → Prop} (hc : q_mI m 249 [.ref x0, .int 26] h P) (hm : m ≤ n) (w : ∀ (z : Int32) (h1 : q_Hp), P z h1 → q_wp (n + 1) 269 85 [some (.ref x0), some (.int x1), some (.int x2), some (.int x3), some (.int x4), l5, l6, l7, l8, l9, l10] [.int z] h1 Q) : q_wp (n + 1) 269 79 [some (.ref x0), some (.int x1), some (.int x2), some (.int x3), some (.int x4), l5, l6, l7, l8, l9, l10] [] h Q := by
  refine wp_loc rfl rfl ?_
  refine wp_bipush (v := 26) rfl (by decide) ?_
  exact wp_callI (av := [.ref x0, .int 26]) rfl rfl rfl (by decide) rfl rfl rfl hm hc w
set_option maxRecDepth 20000 in
theorem b269_85 {n : Nat} {h : q_Hp} {Q : Option Value → q_Hp → Prop} {x0 : Nat} {x1 : Int32} {x2 : Int32} {x3 : Int32} {x4 : Int32} {l5 : Option Value} {l6 : Option Value} {l7 : Option Value} {l8 : Option Value} {l9 : Option Value} {l10 : Option Value} {s0 : Int32} (wt : s0 = 0 → q_wp n 269 345 [some (.ref x0), some (.int x1), some (.int x2), some (.int x3), some (.int x4), l5, l6, l7, l8, l9, l10] [] h Q) (wf : ¬ s0 = 0 → q_wp n 269 88 [some (.ref x0), some (.int x1), some (.int x2), some (.int x3), some (.int x4), l5, l6, l7, l8, l9, l10] [] h Q) : q_wp n 269 85 [some (.ref x0), some (.int x1), some (.int x2), some (.int x3), some (.int x4), l5, l6, l7, l8, l9, l10] [.int s0] h Q := by
  exact wp_ifeq (tgt := 345) rfl (by decide) wt wf
set_option maxRecDepth 20000 in
theorem b269_88 {n : Nat} {h : q_Hp} {Q : Option Value → q_Hp → Prop} {x0 : Nat} {x1 : Int32} {x2 : Int32} {x3 : Int32} {x4 : Int32} {l5 : Option Value} {l6 : Option Value} {l7 : Option Value} {l8 : Option Value} {l9 : Option Value} {l10 : Option Value} {m : Nat} {P : Int32 → q_Hp → Prop} (hc : q_mI m 249 [.ref x0, .int 25] h P) (hm : m ≤ n) (w : ∀ (z : Int32) (h1 : q_Hp), P z h1 → q_wp (n + 1) 269 94 [some (.ref x0), some (.int x1), some (.int x2), some (.int x3), some (.int x4), l5, l6, l7, l8, l9, l10] [.int z] h1 Q) : q_wp (n + 1) 269 88 [some (.ref x0), some (.int x1), some (.int x2), some (.int x3), some (.int x4), l5, l6, l7, l8, l9, l10] [] h Q := by
  refine wp_loc rfl rfl ?_
  refine wp_bipush (v := 25) rfl (by decide) ?_
  exact wp_callI (av := [.ref x0, .int 25]) rfl rfl rfl (by decide) rfl rfl rfl hm hc w
set_option maxRecDepth 20000 in
theorem b269_94 {n : Nat} {h : q_Hp} {Q : Option Value → q_Hp → Prop} {x0 : Nat} {x1 : Int32} {x2 : Int32} {x3 : Int32} {x4 : Int32} {l5 : Option Value} {l6 : Option Value} {l7 : Option Value} {l8 : Option Value} {l9 : Option Value} {l10 : Option Value} {s0 : Int32} {m : Nat} {P : q_Hp → Prop} (hc : q_mV m 252 [.ref x0] h P) (hm : m ≤ n) (w : ∀ h1 : q_Hp, P h1 → q_wp (n + 1) 269 100 [some (.ref x0), some (.int x1), some (.int x2), some (.int x3), some (.int x4), some (.int s0), l6, l7, l8, l9, l10] [] h1 Q) : q_wp (n + 1) 269 94 [some (.ref x0), some (.int x1), some (.int x2), some (.int x3), some (.int x4), l5, l6, l7, l8, l9, l10] [.int s0] h Q := by
  refine wp_loc rfl rfl ?_
  refine wp_loc rfl rfl ?_
  exact wp_callV (av := [.ref x0]) rfl rfl rfl (by decide) rfl rfl rfl hm hc w
set_option maxRecDepth 20000 in
theorem b269_100 {n : Nat} {h : q_Hp} {Q : Option Value → q_Hp → Prop} {x0 : Nat} {x1 : Int32} {x2 : Int32} {x3 : Int32} {x4 : Int32} {x5 : Int32} {l6 : Option Value} {l7 : Option Value} {l8 : Option Value} {l9 : Option Value} {l10 : Option Value} (k0 : q_ok h x0 12) {m : Nat} {P : Int32 → q_Hp → Prop} (hc : q_mI m 249 [.ref x0, .int 1] h P) (hm : m ≤ n) (w : ∀ (z : Int32) (h1 : q_Hp), P z h1 → q_wp (n + 1) 269 111 [some (.ref x0), some (.int x1), some (.int x2), some (.int x3), some (.int x4), some (.int x5), some (.int (qI h x0 11)), l7, l8, l9, l10] [.int z] h1 Q) : q_wp (n + 1) 269 100 [some (.ref x0), some (.int x1), some (.int x2), some (.int x3), some (.int x4), some (.int x5), l6, l7, l8, l9, l10] [] h Q := by
  refine wp_loc rfl rfl ?_
  refine wp_getI rfl rfl rfl k0 ?_
  refine wp_loc rfl rfl ?_
  refine wp_loc rfl rfl ?_
  refine wp_iconst (v := 1) rfl (by decide) ?_
  exact wp_callI (av := [.ref x0, .int 1]) rfl rfl rfl (by decide) rfl rfl rfl hm hc w
set_option maxRecDepth 20000 in
theorem b269_111 {n : Nat} {h : q_Hp} {Q : Option Value → q_Hp → Prop} {x0 : Nat} {x1 : Int32} {x2 : Int32} {x3 : Int32} {x4 : Int32} {x5 : Int32} {x6 : Int32} {l7 : Option Value} {l8 : Option Value} {l9 : Option Value} {l10 : Option Value} {s0 : Int32} (wt : s0 = 0 → q_wp n 269 142 [some (.ref x0), some (.int x1), some (.int x2), some (.int x3), some (.int x4), some (.int x5), some (.int x6), l7, l8, l9, l10] [] h Q) (wf : ¬ s0 = 0 → q_wp n 269 114 [some (.ref x0), some (.int x1), some (.int x2), some (.int x3), some (.int x4), some (.int x5), some (.int x6), l7, l8, l9, l10] [] h Q) : q_wp n 269 111 [some (.ref x0), some (.int x1), some (.int x2), some (.int x3), some (.int x4), some (.int x5), some (.int x6), l7, l8, l9, l10] [.int s0] h Q := by
  exact wp_ifeq (tgt := 142) rfl (by decide) wt wf
set_option maxRecDepth 20000 in
theorem b269_114 {n : Nat} {h : q_Hp} {Q : Option Value → q_Hp → Prop} {x0 : Nat} {x1 : Int32} {x2 : Int32} {x3 : Int32} {x4 : Int32} {x5 : Int32} {x6 : Int32} {l7 : Option Value} {l8 : Option Value} {l9 : Option Value} {l10 : Option Value} (wt : x5 = 0 → q_wp n 269 127 [some (.ref x0), some (.int x1), some (.int x2), some (.int x3), some (.int x4), some (.int x5), some (.int x6), l7, l8, l9, l10] [] h Q) (wf : ¬ x5 = 0 → q_wp n 269 119 [some (.ref x0), some (.int x1), some (.int x2), some (.int x3), some (.int x4), some (.int x5), some (.int x6), l7, l8, l9, l10] [] h Q) : q_wp n 269 114 [some (.ref x0), some (.int x1), some (.int x2), some (.int x3), some (.int x4), some (.int x5), some (.int x6), l7, l8, l9, l10] [] h Q := by
  refine wp_loc rfl rfl ?_
  exact wp_ifeq (tgt := 127) rfl (by decide) wt wf
set_option maxRecDepth 20000 in
theorem b269_119 {n : Nat} {h : q_Hp} {Q : Option Value → q_Hp → Prop} {x0 : Nat} {x1 : Int32} {x2 : Int32} {x3 : Int32} {x4 : Int32} {x5 : Int32} {x6 : Int32} {l7 : Option Value} {l8 : Option Value} {l9 : Option Value} {l10 : Option Value} (wt : x4 = 0 → q_wp n 269 142 [some (.ref x0), some (.int x1), some (.int x2), some (.int x3), some (.int x4), some (.int x5), some (.int x6), l7, l8, l9, l10] [] h Q) (wf : ¬ x4 = 0 → q_wp n 269 124 [some (.ref x0), some (.int x1), some (.int x2), some (.int x3), some (.int x4), some (.int x5), some (.int x6), l7, l8, l9, l10] [] h Q) : q_wp n 269 119 [some (.ref x0), some (.int x1), some (.int x2), some (.int x3), some (.int x4), some (.int x5), some (.int x6), l7, l8, l9, l10] [] h Q := by
  refine wp_loc rfl rfl ?_
  exact wp_ifeq (tgt := 142) rfl (by decide) wt wf
set_option maxRecDepth 20000 in
theorem b269_124 {n : Nat} {h : q_Hp} {Q : Option Value → q_Hp → Prop} {x0 : Nat} {x1 : Int32} {x2 : Int32} {x3 : Int32} {x4 : Int32} {x5 : Int32} {x6 : Int32} {l7 : Option Value} {l8 : Option Value} {l9 : Option Value} {l10 : Option Value} (w : q_wp n 269 137 [some (.ref x0), some (.int x1), some (.int x2), some (.int x3), some (.int x4), some (.int x5), some (.int x6), l7, l8, l9, l10] [] h Q) : q_wp n 269 124 [some (.ref x0), some (.int x1), some (.int x2), some (.int x3), some (.int x4), some (.int x5), some (.int x6), l7, l8, l9, l10] [] h Q := by
  refine wp_goto (tgt := 137) rfl (by decide) ?_
  exact w
set_option maxRecDepth 20000 in
theorem b269_127 {n : Nat} {h : q_Hp} {Q : Option Value → q_Hp → Prop} {x0 : Nat} {x1 : Int32} {x2 : Int32} {x3 : Int32} {x4 : Int32} {x5 : Int32} {x6 : Int32} {l7 : Option Value} {l8 : Option Value} {l9 : Option Value} {l10 : Option Value} {v0 : Nat} (k0 : q_ok h x0 12) (e0 : qR h x0 40 = v0) (k1 : q_ok h v0 20) (i0 : q_in x3 (qK h v0).2) (wt : ¬ (qA h v0 x3.toNatClampNeg) = 3 → q_wp n 269 142 [some (.ref x0), some (.int x1), some (.int x2), some (.int x3), some (.int x4), some (.int x5), some (.int x6), l7, l8, l9, l10] [] h Q) (wf : (qA h v0 x3.toNatClampNeg) = 3 → q_wp n 269 137 [some (.ref x0), some (.int x1), some (.int x2), some (.int x3), some (.int x4), some (.int x5), some (.int x6), l7, l8, l9, l10] [] h Q) : q_wp n 269 127 [some (.ref x0), some (.int x1), some (.int x2), some (.int x3), some (.int x4), some (.int x5), some (.int x6), l7, l8, l9, l10] [] h Q := by
  refine wp_loc rfl rfl ?_
  refine wp_getR rfl rfl rfl rfl k0 e0 ?_
  refine wp_loc rfl rfl ?_
  refine wp_iald rfl k1 i0 ?_
  refine wp_iconst (v := 3) rfl (by decide) ?_
  exact wp_icne (tgt := 142) rfl (by decide) wt wf
set_option maxRecDepth 20000 in
theorem b269_137 {n : Nat} {h : q_Hp} {Q : Option Value → q_Hp → Prop} {x0 : Nat} {x1 : Int32} {x2 : Int32} {x3 : Int32} {x4 : Int32} {x5 : Int32} {x6 : Int32} {l7 : Option Value} {l8 : Option Value} {l9 : Option Value} {l10 : Option Value} {m : Nat} {P : q_Hp → Prop} (hc : q_mV m 250 [.ref x0, .int 2] h P) (hm : m ≤ n) (w : ∀ h1 : q_Hp, P h1 → q_wp (n + 1) 269 142 [some (.ref x0), some (.int x1), some (.int x2), some (.int x3), some (.int x4), some (.int x5), some (.int x6), l7, l8, l9, l10] [] h1 Q) : q_wp (n + 1) 269 137 [some (.ref x0), some (.int x1), some (.int x2), some (.int x3), some (.int x4), some (.int x5), some (.int x6), l7, l8, l9, l10] [] h Q := by
  refine wp_loc rfl rfl ?_
  refine wp_iconst (v := 2) rfl (by decide) ?_
  exact wp_callV (av := [.ref x0, .int 2]) rfl rfl rfl (by decide) rfl rfl rfl hm hc w
set_option maxRecDepth 20000 in
theorem b269_142 {n : Nat} {h : q_Hp} {Q : Option Value → q_Hp → Prop} {x0 : Nat} {x1 : Int32} {x2 : Int32} {x3 : Int32} {x4 : Int32} {x5 : Int32} {x6 : Int32} {l7 : Option Value} {l8 : Option Value} {l9 : Option Value} {l10 : Option Value} {m : Nat} {P : q_Hp → Prop} (hc : q_mV m 253 [.ref x0, .int 1] h P) (hm : m ≤ n) (w : ∀ h1 : q_Hp, P h1 → q_wp (n + 1) 269 147 [some (.ref x0), some (.int x1), some (.int x2), some (.int x3), some (.int x4), some (.int x5), some (.int x6), l7, l8, l9, l10] [] h1 Q) : q_wp (n + 1) 269 142 [some (.ref x0), some (.int x1), some (.int x2), some (.int x3), some (.int x4), some (.int x5), some (.int x6), l7, l8, l9, l10] [] h Q := by
  refine wp_loc rfl rfl ?_
  refine wp_iconst (v := 1) rfl (by decide) ?_
  exact wp_callV (av := [.ref x0, .int 1]) rfl rfl rfl (by decide) rfl rfl rfl hm hc w
set_option maxRecDepth 20000 in
theorem b269_147 {n : Nat} {h : q_Hp} {Q : Option Value → q_Hp → Prop} {x0 : Nat} {x1 : Int32} {x2 : Int32} {x3 : Int32} {x4 : Int32} {x5 : Int32} {x6 : Int32} {l7 : Option Value} {l8 : Option Value} {l9 : Option Value} {l10 : Option Value} {m : Nat} {P : q_Hp → Prop} (hc : q_mV m 253 [.ref x0, .int 5] h P) (hm : m ≤ n) (w : ∀ h1 : q_Hp, P h1 → q_wp (n + 1) 269 152 [some (.ref x0), some (.int x1), some (.int x2), some (.int x3), some (.int x4), some (.int x5), some (.int x6), l7, l8, l9, l10] [] h1 Q) : q_wp (n + 1) 269 147 [some (.ref x0), some (.int x1), some (.int x2), some (.int x3), some (.int x4), some (.int x5), some (.int x6), l7, l8, l9, l10] [] h Q := by
  refine wp_loc rfl rfl ?_
  refine wp_iconst (v := 5) rfl (by decide) ?_
  exact wp_callV (av := [.ref x0, .int 5]) rfl rfl rfl (by decide) rfl rfl rfl hm hc w
set_option maxRecDepth 20000 in
theorem b269_152 {n : Nat} {h : q_Hp} {Q : Option Value → q_Hp → Prop} {x0 : Nat} {x1 : Int32} {x2 : Int32} {x3 : Int32} {x4 : Int32} {x5 : Int32} {x6 : Int32} {l7 : Option Value} {l8 : Option Value} {l9 : Option Value} {l10 : Option Value} (k0 : q_ok h x0 12) {m : Nat} {P : q_Hp → Prop} (hc : q_mV m 253 [.ref x0, .int 1] h P) (hm : m ≤ n) (w : ∀ h1 : q_Hp, P h1 → q_wp (n + 1) 269 163 [some (.ref x0), some (.int x1), some (.int x2), some (.int x3), some (.int x4), some (.int x5), some (.int x6), some (.int (qI h x0 11)), l8, l9, l10] [] h1 Q) : q_wp (n + 1) 269 152 [some (.ref x0), some (.int x1), some (.int x2), some (.int x3), some (.int x4), some (.int x5), some (.int x6), l7, l8, l9, l10] [] h Q := by
  refine wp_loc rfl rfl ?_
  refine wp_getI rfl rfl rfl k0 ?_
  refine wp_loc rfl rfl ?_
  refine wp_loc rfl rfl ?_
  refine wp_iconst (v := 1) rfl (by decide) ?_
  exact wp_callV (av := [.ref x0, .int 1]) rfl rfl rfl (by decide) rfl rfl rfl hm hc w
set_option maxRecDepth 20000 in
theorem b269_163 {n : Nat} {h : q_Hp} {Q : Option Value → q_Hp → Prop} {x0 : Nat} {x1 : Int32} {x2 : Int32} {x3 : Int32} {x4 : Int32} {x5 : Int32} {x6 : Int32} {x7 : Int32} {l8 : Option Value} {l9 : Option Value} {l10 : Option Value} (k0 : q_ok h x0 12) (wt : ¬ x5 = 0 → q_wp n 269 214 [some (.ref x0), some (.int x1), some (.int x2), some (.int x3), some (.int x4), some (.int x5), some (.int x6), some (.int x7), some (.int (qI h x0 11)), some (.int (qI h x0 11)), l10] [] h Q) (wf : x5 = 0 → q_wp n 269 180 [some (.ref x0), some (.int x1), some (.int x2), some (.int x3), some (.int x4), some (.int x5), some (.int x6), some (.int x7), some (.int (qI h x0 11)), some (.int (qI h x0 11)), l10] [] h Q) : q_wp n 269 163 [some (.ref x0), some (.int x1), some (.int x2), some (.int x3), some (.int x4), some (.int x5), some (.int x6), some (.int x7), l8, l9, l10] [] h Q := by
  refine wp_loc rfl rfl ?_
  refine wp_getI rfl rfl rfl k0 ?_
  refine wp_loc rfl rfl ?_
  refine wp_loc rfl rfl ?_
  refine wp_getI rfl rfl rfl k0 ?_
  refine wp_loc rfl rfl ?_
  refine wp_loc rfl rfl ?_
  exact wp_ifne (tgt := 214) rfl (by decide) wt wf
set_option maxRecDepth 20000 in
theorem b269_180 {n : Nat} {h : q_Hp} {Q : Option Value → q_Hp → Prop} {x0 : Nat} {x1 : Int32} {x2 : Int32} {x3 : Int32} {x4 : Int32} {x5 : Int32} {x6 : Int32} {x7 : Int32} {x8 : Int32} {x9 : Int32} {l10 : Option Value} {m : Nat} {P : q_Hp → Prop} (hc : q_mV m 253 [.ref x0, .int 14] h P) (hm : m ≤ n) (w : ∀ h1 : q_Hp, P h1 → q_wp (n + 1) 269 186 [some (.ref x0), some (.int x1), some (.int x2), some (.int x3), some (.int x4), some (.int x5), some (.int x6), some (.int x7), some (.int x8), some (.int x9), l10] [] h1 Q) : q_wp (n + 1) 269 180 [some (.ref x0), some (.int x1), some (.int x2), some (.int x3), some (.int x4), some (.int x5), some (.int x6), some (.int x7), some (.int x8), some (.int x9), l10] [] h Q := by
  refine wp_loc rfl rfl ?_
  refine wp_bipush (v := 14) rfl (by decide) ?_
  exact wp_callV (av := [.ref x0, .int 14]) rfl rfl rfl (by decide) rfl rfl rfl hm hc w
set_option maxRecDepth 20000 in
theorem b269_186 {n : Nat} {h : q_Hp} {Q : Option Value → q_Hp → Prop} {x0 : Nat} {x1 : Int32} {x2 : Int32} {x3 : Int32} {x4 : Int32} {x5 : Int32} {x6 : Int32} {x7 : Int32} {x8 : Int32} {x9 : Int32} {l10 : Option Value} (k0 : q_ok h x0 12) {m : Nat} {P : q_Hp → Prop} (hc : q_mV m 253 [.ref x0, .int 1] h P) (hm : m ≤ n) (w : ∀ h1 : q_Hp, P h1 → q_wp (n + 1) 269 197 [some (.ref x0), some (.int x1), some (.int x2), some (.int x3), some (.int x4), some (.int x5), some (.int x6), some (.int x7), some (.int (qI h x0 11)), some (.int x9), l10] [] h1 Q) : q_wp (n + 1) 269 186 [some (.ref x0), some (.int x1), some (.int x2), some (.int x3), some (.int x4), some (.int x5), some (.int x6), some (.int x7), some (.int x8), some (.int x9), l10] [] h Q := by
  refine wp_loc rfl rfl ?_
  refine wp_getI rfl rfl rfl k0 ?_
  refine wp_loc rfl rfl ?_
  refine wp_loc rfl rfl ?_
  refine wp_iconst (v := 1) rfl (by decide) ?_
  exact wp_callV (av := [.ref x0, .int 1]) rfl rfl rfl (by decide) rfl rfl rfl hm hc w
set_option maxRecDepth 20000 in
theorem b269_197 {n : Nat} {h : q_Hp} {Q : Option Value → q_Hp → Prop} {x0 : Nat} {x1 : Int32} {x2 : Int32} {x3 : Int32} {x4 : Int32} {x5 : Int32} {x6 : Int32} {x7 : Int32} {x8 : Int32} {x9 : Int32} {l10 : Option Value} {m : Nat} {P : q_Hp → Prop} (hc : q_mV m 253 [.ref x0, .int 18] h P) (hm : m ≤ n) (w : ∀ h1 : q_Hp, P h1 → q_wp (n + 1) 269 203 [some (.ref x0), some (.int x1), some (.int x2), some (.int x3), some (.int x4), some (.int x5), some (.int x6), some (.int x7), some (.int x8), some (.int x9), l10] [] h1 Q) : q_wp (n + 1) 269 197 [some (.ref x0), some (.int x1), some (.int x2), some (.int x3), some (.int x4), some (.int x5), some (.int x6), some (.int x7), some (.int x8), some (.int x9), l10] [] h Q := by
  refine wp_loc rfl rfl ?_
  refine wp_bipush (v := 18) rfl (by decide) ?_
  exact wp_callV (av := [.ref x0, .int 18]) rfl rfl rfl (by decide) rfl rfl rfl hm hc w
set_option maxRecDepth 20000 in
theorem b269_203 {n : Nat} {h : q_Hp} {Q : Option Value → q_Hp → Prop} {x0 : Nat} {x1 : Int32} {x2 : Int32} {x3 : Int32} {x4 : Int32} {x5 : Int32} {x6 : Int32} {x7 : Int32} {x8 : Int32} {x9 : Int32} {l10 : Option Value} (k0 : q_ok h x0 12) {m : Nat} {P : q_Hp → Prop} (hc : q_mV m 253 [.ref x0, .int 1] h P) (hm : m ≤ n) (w : ∀ h1 : q_Hp, P h1 → q_wp (n + 1) 269 214 [some (.ref x0), some (.int x1), some (.int x2), some (.int x3), some (.int x4), some (.int x5), some (.int x6), some (.int x7), some (.int x8), some (.int (qI h x0 11)), l10] [] h1 Q) : q_wp (n + 1) 269 203 [some (.ref x0), some (.int x1), some (.int x2), some (.int x3), some (.int x4), some (.int x5), some (.int x6), some (.int x7), some (.int x8), some (.int x9), l10] [] h Q := by
  refine wp_loc rfl rfl ?_
  refine wp_getI rfl rfl rfl k0 ?_
  refine wp_loc rfl rfl ?_
  refine wp_loc rfl rfl ?_
  refine wp_iconst (v := 1) rfl (by decide) ?_
  exact wp_callV (av := [.ref x0, .int 1]) rfl rfl rfl (by decide) rfl rfl rfl hm hc w
set_option maxRecDepth 20000 in
theorem b269_214 {n : Nat} {h : q_Hp} {Q : Option Value → q_Hp → Prop} {x0 : Nat} {x1 : Int32} {x2 : Int32} {x3 : Int32} {x4 : Int32} {x5 : Int32} {x6 : Int32} {x7 : Int32} {x8 : Int32} {x9 : Int32} {l10 : Option Value} {m : Nat} {P : q_Hp → Prop} (hc : q_mV m 253 [.ref x0, .int 4] h P) (hm : m ≤ n) (w : ∀ h1 : q_Hp, P h1 → q_wp (n + 1) 269 219 [some (.ref x0), some (.int x1), some (.int x2), some (.int x3), some (.int x4), some (.int x5), some (.int x6), some (.int x7), some (.int x8), some (.int x9), l10] [] h1 Q) : q_wp (n + 1) 269 214 [some (.ref x0), some (.int x1), some (.int x2), some (.int x3), some (.int x4), some (.int x5), some (.int x6), some (.int x7), some (.int x8), some (.int x9), l10] [] h Q := by
  refine wp_loc rfl rfl ?_
  refine wp_iconst (v := 4) rfl (by decide) ?_
  exact wp_callV (av := [.ref x0, .int 4]) rfl rfl rfl (by decide) rfl rfl rfl hm hc w
set_option maxRecDepth 20000 in
theorem b269_219 {n : Nat} {h : q_Hp} {Q : Option Value → q_Hp → Prop} {x0 : Nat} {x1 : Int32} {x2 : Int32} {x3 : Int32} {x4 : Int32} {x5 : Int32} {x6 : Int32} {x7 : Int32} {x8 : Int32} {x9 : Int32} {l10 : Option Value} (k0 : q_ok h x0 12) (wt : (qI h x0 13) ≤ 0 → q_wp n 269 227 [some (.ref x0), some (.int x1), some (.int x2), some (.int x3), some (.int x4), some (.int x5), some (.int x6), some (.int x7), some (.int x8), some (.int x9), l10] [] h Q) (wf : ¬ (qI h x0 13) ≤ 0 → q_wp n 269 226 [some (.ref x0), some (.int x1), some (.int x2), some (.int x3), some (.int x4), some (.int x5), some (.int x6), some (.int x7), some (.int x8), some (.int x9), l10] [] h Q) : q_wp n 269 219 [some (.ref x0), some (.int x1), some (.int x2), some (.int x3), some (.int x4), some (.int x5), some (.int x6), some (.int x7), some (.int x8), some (.int x9), l10] [] h Q := by
  refine wp_loc rfl rfl ?_
  refine wp_getI rfl rfl rfl k0 ?_
  exact wp_ifle (tgt := 227) rfl (by decide) wt wf
set_option maxRecDepth 20000 in
theorem b269_226 {n : Nat} {h : q_Hp} {Q : Option Value → q_Hp → Prop} {x0 : Nat} {x1 : Int32} {x2 : Int32} {x3 : Int32} {x4 : Int32} {x5 : Int32} {x6 : Int32} {x7 : Int32} {x8 : Int32} {x9 : Int32} {l10 : Option Value} (q : Q none h) : q_wp n 269 226 [some (.ref x0), some (.int x1), some (.int x2), some (.int x3), some (.int x4), some (.int x5), some (.int x6), some (.int x7), some (.int x8), some (.int x9), l10] [] h Q := by
  exact wp_ret rfl rfl q
set_option maxRecDepth 20000 in
theorem b269_227 {n : Nat} {h : q_Hp} {Q : Option Value → q_Hp → Prop} {x0 : Nat} {x1 : Int32} {x2 : Int32} {x3 : Int32} {x4 : Int32} {x5 : Int32} {x6 : Int32} {x7 : Int32} {x8 : Int32} {x9 : Int32} {l10 : Option Value} (wt : x5 = 0 → q_wp n 269 264 [some (.ref x0), some (.int x1), some (.int x2), some (.int x3), some (.int x4), some (.int x5), some (.int x6), some (.int x7), some (.int x8), some (.int x9), l10] [] h Q) (wf : ¬ x5 = 0 → q_wp n 269 232 [some (.ref x0), some (.int x1), some (.int x2), some (.int x3), some (.int x4), some (.int x5), some (.int x6), some (.int x7), some (.int x8), some (.int x9), l10] [] h Q) : q_wp n 269 227 [some (.ref x0), some (.int x1), some (.int x2), some (.int x3), some (.int x4), some (.int x5), some (.int x6), some (.int x7), some (.int x8), some (.int x9), l10] [] h Q := by
  refine wp_loc rfl rfl ?_
  exact wp_ifeq (tgt := 264) rfl (by decide) wt wf
set_option maxRecDepth 20000 in
theorem b269_232 {n : Nat} {h : q_Hp} {Q : Option Value → q_Hp → Prop} {x0 : Nat} {x1 : Int32} {x2 : Int32} {x3 : Int32} {x4 : Int32} {x5 : Int32} {x6 : Int32} {x7 : Int32} {x8 : Int32} {x9 : Int32} {l10 : Option Value} {v0 : Nat} (k0 : q_ok h x0 12) (e0 : qR h x0 39 = v0) {m : Nat} {P : Int32 → q_Hp → Prop} (hc : q_mI m 255 [.ref x0, .int x7] h P) (hm : m ≤ n) (w : ∀ (z : Int32) (h1 : q_Hp), P z h1 → q_wp (n + 1) 269 246 [some (.ref x0), some (.int x1), some (.int x2), some (.int x3), some (.int 1), some (.int x5), some (.int x6), some (.int x7), some (.int x8), some (.int x9), l10] [.int z, .int x3, .ref v0] h1 Q) : q_wp (n + 1) 269 232 [some (.ref x0), some (.int x1), some (.int x2), some (.int x3), some (.int x4), some (.int x5), some (.int x6), some (.int x7), some (.int x8), some (.int x9), l10] [] h Q := by
  refine wp_iconst (v := 1) rfl (by decide) ?_
  refine wp_loc rfl rfl ?_
  refine wp_loc rfl rfl ?_
  refine wp_getR rfl rfl rfl rfl k0 e0 ?_
  refine wp_loc rfl rfl ?_
  refine wp_loc rfl rfl ?_
  refine wp_loc rfl rfl ?_
  exact wp_callI (av := [.ref x0, .int x7]) rfl rfl rfl (by decide) rfl rfl rfl hm hc w
set_option maxRecDepth 20000 in
theorem b269_246 {n : Nat} {h : q_Hp} {Q : Option Value → q_Hp → Prop} {x0 : Nat} {x1 : Int32} {x2 : Int32} {x3 : Int32} {x4 : Int32} {x5 : Int32} {x6 : Int32} {x7 : Int32} {x8 : Int32} {x9 : Int32} {l10 : Option Value} {s0 : Int32} {s1 : Int32} {s2 : Nat} {v0 : Nat} (k0 : q_ok h s2 20) (i0 : q_in s1 (qK h s2).2) (k1 : q_ok h x0 12) (e0 : qR h x0 39 = v0) (k2 : q_ok h v0 20) (i1 : q_in x3 (qK h v0).2) {m : Nat} {P : q_Hp → Prop} (hc : q_mV m 258 [.ref x0, .int x6, .int 0, .int 4, .int (qA (q_sA h s2 s1.toNatClampNeg s0) v0 x3.toNatClampNeg)] (q_sA h s2 s1.toNatClampNeg s0) P) (hm : m ≤ n) (w : ∀ h1 : q_Hp, P h1 → q_wp (n + 1) 269 261 [some (.ref x0), some (.int x1), some (.int x2), some (.int x3), some (.int x4), some (.int x5), some (.int x6), some (.int x7), some (.int x8), some (.int x9), l10] [] h1 Q) : q_wp (n + 1) 269 246 [some (.ref x0), some (.int x1), some (.int x2), some (.int x3), some (.int x4), some (.int x5), some (.int x6), some (.int x7), some (.int x8), some (.int x9), l10] [.int s0, .int s1, .ref s2] h Q := by
  refine wp_iast rfl k0 i0 ?_
  refine wp_loc rfl rfl ?_
  refine wp_loc rfl rfl ?_
  refine wp_iconst (v := 0) rfl (by decide) ?_
  refine wp_iconst (v := 4) rfl (by decide) ?_
  refine wp_loc rfl rfl ?_
  refine wp_getR rfl rfl rfl rfl k1 e0 ?_
  refine wp_loc rfl rfl ?_
  refine wp_iald rfl k2 i1 ?_
  exact wp_callV (av := [.ref x0, .int x6, .int 0, .int 4, .int (qA (q_sA h s2 s1.toNatClampNeg s0) v0 x3.toNatClampNeg)]) rfl rfl rfl (by decide) rfl rfl rfl hm hc w
set_option maxRecDepth 20000 in
theorem b269_261 {n : Nat} {h : q_Hp} {Q : Option Value → q_Hp → Prop} {x0 : Nat} {x1 : Int32} {x2 : Int32} {x3 : Int32} {x4 : Int32} {x5 : Int32} {x6 : Int32} {x7 : Int32} {x8 : Int32} {x9 : Int32} {l10 : Option Value} (w : q_wp n 269 342 [some (.ref x0), some (.int x1), some (.int x2), some (.int x3), some (.int x4), some (.int x5), some (.int x6), some (.int x7), some (.int x8), some (.int x9), l10] [] h Q) : q_wp n 269 261 [some (.ref x0), some (.int x1), some (.int x2), some (.int x3), some (.int x4), some (.int x5), some (.int x6), some (.int x7), some (.int x8), some (.int x9), l10] [] h Q := by
  refine wp_goto (tgt := 342) rfl (by decide) ?_
  exact w
set_option maxRecDepth 20000 in
theorem b269_264 {n : Nat} {h : q_Hp} {Q : Option Value → q_Hp → Prop} {x0 : Nat} {x1 : Int32} {x2 : Int32} {x3 : Int32} {x4 : Int32} {x5 : Int32} {x6 : Int32} {x7 : Int32} {x8 : Int32} {x9 : Int32} {l10 : Option Value} {v0 : Nat} {v1 : Nat} (k0 : q_ok h x0 12) (e0 : qR h x0 40 = v0) (k1 : q_ok h v0 20) (i0 : q_in x3 (qK h v0).2) (e1 : qR h x0 42 = v1) {m : Nat} {P : Int32 → q_Hp → Prop} (hc : q_mI m 267 [.ref x0, .int x7] h P) (hm : m ≤ n) (w : ∀ (z : Int32) (h1 : q_Hp), P z h1 → q_wp (n + 1) 269 288 [some (.ref x0), some (.int x1), some (.int x2), some (.int x3), some (.int x4), some (.int x5), some (.int x6), some (.int x7), some (.int x8), some (.int x9), some (.int ((3 * x3) + (qA h v0 x3.toNatClampNeg)))] [.int z, .int ((3 * x3) + (qA h v0 x3.toNatClampNeg)), .ref v1] h1 Q) : q_wp (n + 1) 269 264 [some (.ref x0), some (.int x1), some (.int x2), some (.int x3), some (.int x4), some (.int x5), some (.int x6), some (.int x7), some (.int x8), some (.int x9), l10] [] h Q := by
  refine wp_iconst (v := 3) rfl (by decide) ?_
  refine wp_loc rfl rfl ?_
  refine wp_stk rfl rfl rfl ?_
  refine wp_loc rfl rfl ?_
  refine wp_getR rfl rfl rfl rfl k0 e0 ?_
  refine wp_loc rfl rfl ?_
  refine wp_iald rfl k1 i0 ?_
  refine wp_stk rfl rfl rfl ?_
  refine wp_loc rfl rfl ?_
  refine wp_loc rfl rfl ?_
  refine wp_getR rfl rfl rfl rfl k0 e1 ?_
  refine wp_loc rfl rfl ?_
  refine wp_loc rfl rfl ?_
  refine wp_loc rfl rfl ?_
  exact wp_callI (av := [.ref x0, .int x7]) rfl rfl rfl (by decide) rfl rfl rfl hm hc w
set_option maxRecDepth 20000 in
theorem b269_288 {n : Nat} {h : q_Hp} {Q : Option Value → q_Hp → Prop} {x0 : Nat} {x1 : Int32} {x2 : Int32} {x3 : Int32} {x4 : Int32} {x5 : Int32} {x6 : Int32} {x7 : Int32} {x8 : Int32} {x9 : Int32} {x10 : Int32} {s0 : Int32} {s1 : Int32} {s2 : Nat} {v0 : Nat} (k0 : q_ok h s2 20) (i0 : q_in s1 (qK h s2).2) (k1 : q_ok h x0 12) (e0 : qR h x0 41 = v0) {m : Nat} {P : Int32 → q_Hp → Prop} (hc : q_mI m 256 [.ref x0, .int x8] (q_sA h s2 s1.toNatClampNeg s0) P) (hm : m ≤ n) (w : ∀ (z : Int32) (h1 : q_Hp), P z h1 → q_wp (n + 1) 269 301 [some (.ref x0), some (.int x1), some (.int x2), some (.int x3), some (.int x4), some (.int x5), some (.int x6), some (.int x7), some (.int x8), some (.int x9), some (.int x10)] [.int z, .int x10, .ref v0] h1 Q) : q_wp (n + 1) 269 288 [some (.ref x0), some (.int x1), some (.int x2), some (.int x3), some (.int x4), some (.int x5), some (.int x6), some (.int x7), some (.int x8), some (.int x9), some (.int x10)] [.int s0, .int s1, .ref s2] h Q := by
  refine wp_iast rfl k0 i0 ?_
  refine wp_loc rfl rfl ?_
  refine wp_getR rfl rfl rfl rfl k1 e0 ?_
  refine wp_loc rfl rfl ?_
  refine wp_loc rfl rfl ?_
  refine wp_loc rfl rfl ?_
  exact wp_callI (av := [.ref x0, .int x8]) rfl rfl rfl (by decide) rfl rfl rfl hm hc w
set_option maxRecDepth 20000 in
theorem b269_301 {n : Nat} {h : q_Hp} {Q : Option Value → q_Hp → Prop} {x0 : Nat} {x1 : Int32} {x2 : Int32} {x3 : Int32} {x4 : Int32} {x5 : Int32} {x6 : Int32} {x7 : Int32} {x8 : Int32} {x9 : Int32} {x10 : Int32} {s0 : Int32} {s1 : Int32} {s2 : Nat} {v0 : Nat} (k0 : q_ok h s2 20) (i0 : q_in s1 (qK h s2).2) (k1 : q_ok h x0 12) (e0 : qR h x0 43 = v0) {m : Nat} {P : Int32 → q_Hp → Prop} (hc : q_mI m 267 [.ref x0, .int x9] (q_sA h s2 s1.toNatClampNeg s0) P) (hm : m ≤ n) (w : ∀ (z : Int32) (h1 : q_Hp), P z h1 → q_wp (n + 1) 269 314 [some (.ref x0), some (.int x1), some (.int x2), some (.int x3), some (.int x4), some (.int x5), some (.int x6), some (.int x7), some (.int x8), some (.int x9), some (.int x10)] [.int z, .int x10, .ref v0] h1 Q) : q_wp (n + 1) 269 301 [some (.ref x0), some (.int x1), some (.int x2), some (.int x3), some (.int x4), some (.int x5), some (.int x6), some (.int x7), some (.int x8), some (.int x9), some (.int x10)] [.int s0, .int s1, .ref s2] h Q := by
  refine wp_iast rfl k0 i0 ?_
  refine wp_loc rfl rfl ?_
  refine wp_getR rfl rfl rfl rfl k1 e0 ?_
  refine wp_loc rfl rfl ?_
  refine wp_loc rfl rfl ?_
  refine wp_loc rfl rfl ?_
  exact wp_callI (av := [.ref x0, .int x9]) rfl rfl rfl (by decide) rfl rfl rfl hm hc w
set_option maxRecDepth 20000 in
theorem b269_314 {n : Nat} {h : q_Hp} {Q : Option Value → q_Hp → Prop} {x0 : Nat} {x1 : Int32} {x2 : Int32} {x3 : Int32} {x4 : Int32} {x5 : Int32} {x6 : Int32} {x7 : Int32} {x8 : Int32} {x9 : Int32} {x10 : Int32} {s0 : Int32} {s1 : Int32} {s2 : Nat} {v0 : Nat} (k0 : q_ok h s2 20) (i0 : q_in s1 (qK h s2).2) (k1 : q_ok h x0 12) (e0 : qR h x0 40 = v0) (k2 : q_ok h v0 20) (i1 : q_in x3 (qK h v0).2) {m : Nat} {P : q_Hp → Prop} (hc : q_mV m 258 [.ref x0, .int x6, .int 1, .int (6 + (qA (q_sA h s2 s1.toNatClampNeg s0) v0 x3.toNatClampNeg)), .int (-1)] (q_sA h s2 s1.toNatClampNeg s0) P) (hm : m ≤ n) (w : ∀ h1 : q_Hp, P h1 → q_wp (n + 1) 269 332 [some (.ref x0), some (.int x1), some (.int x2), some (.int x3), some (.int x4), some (.int x5), some (.int x6), some (.int x7), some (.int x8), some (.int x9), some (.int x10)] [] h1 Q) : q_wp (n + 1) 269 314 [some (.ref x0), some (.int x1), some (.int x2), some (.int x3), some (.int x4), some (.int x5), some (.int x6), some (.int x7), some (.int x8), some (.int x9), some (.int x10)] [.int s0, .int s1, .ref s2] h Q := by
  refine wp_iast rfl k0 i0 ?_
  refine wp_loc rfl rfl ?_
  refine wp_loc rfl rfl ?_
  refine wp_iconst (v := 1) rfl (by decide) ?_
  refine wp_bipush (v := 6) rfl (by decide) ?_
  refine wp_loc rfl rfl ?_
  refine wp_getR rfl rfl rfl rfl k1 e0 ?_
  refine wp_loc rfl rfl ?_
  refine wp_iald rfl k2 i1 ?_
  refine wp_stk rfl rfl rfl ?_
  refine wp_iconst (v := (-1)) rfl (by decide) ?_
  exact wp_callV (av := [.ref x0, .int x6, .int 1, .int (6 + (qA (q_sA h s2 s1.toNatClampNeg s0) v0 x3.toNatClampNeg)), .int (-1)]) rfl rfl rfl (by decide) rfl rfl rfl hm hc w
set_option maxRecDepth 20000 in
theorem b269_332 {n : Nat} {h : q_Hp} {Q : Option Value → q_Hp → Prop} {x0 : Nat} {x1 : Int32} {x2 : Int32} {x3 : Int32} {x4 : Int32} {x5 : Int32} {x6 : Int32} {x7 : Int32} {x8 : Int32} {x9 : Int32} {x10 : Int32} {v0 : Nat} (k0 : q_ok h x0 12) (e0 : qR h x0 40 = v0) (k1 : q_ok h v0 20) (i0 : q_in x3 (qK h v0).2) (w : q_wp n 269 342 [some (.ref x0), some (.int x1), some (.int x2), some (.int x3), some (.int x4), some (.int x5), some (.int x6), some (.int x7), some (.int x8), some (.int x9), some (.int x10)] [] (q_sA h v0 x3.toNatClampNeg ((qA h v0 x3.toNatClampNeg) + 1)) Q) : q_wp n 269 332 [some (.ref x0), some (.int x1), some (.int x2), some (.int x3), some (.int x4), some (.int x5), some (.int x6), some (.int x7), some (.int x8), some (.int x9), some (.int x10)] [] h Q := by
  refine wp_loc rfl rfl ?_
  refine wp_getR rfl rfl rfl rfl k0 e0 ?_
  refine wp_loc rfl rfl ?_
  refine wp_stk rfl rfl rfl ?_
  refine wp_iald rfl k1 i0 ?_
  refine wp_iconst (v := 1) rfl (by decide) ?_
  refine wp_stk rfl rfl rfl ?_
  refine wp_iast rfl k1 i0 ?_
  exact w
set_option maxRecDepth 20000 in
theorem b269_342 {n : Nat} {h : q_Hp} {Q : Option Value → q_Hp → Prop} {x0 : Nat} {x1 : Int32} {x2 : Int32} {x3 : Int32} {x4 : Int32} {x5 : Int32} {x6 : Int32} {x7 : Int32} {x8 : Int32} {x9 : Int32} {l10 : Option Value} (w : q_wp n 269 70 [some (.ref x0), some (.int x1), some (.int x2), some (.int x3), some (.int x4), some (.int x5), some (.int x6), some (.int x7), some (.int x8), some (.int x9), l10] [] h Q) : q_wp n 269 342 [some (.ref x0), some (.int x1), some (.int x2), some (.int x3), some (.int x4), some (.int x5), some (.int x6), some (.int x7), some (.int x8), some (.int x9), l10] [] h Q := by
  refine wp_goto (tgt := 70) rfl (by decide) ?_
  exact w
set_option maxRecDepth 20000 in
theorem b269_345 {n : Nat} {h : q_Hp} {Q : Option Value → q_Hp → Prop} {x0 : Nat} {x1 : Int32} {x2 : Int32} {x3 : Int32} {x4 : Int32} {l5 : Option Value} {l6 : Option Value} {l7 : Option Value} {l8 : Option Value} {l9 : Option Value} {l10 : Option Value} {m : Nat} {P : q_Hp → Prop} (hc : q_mV m 253 [.ref x0, .int 29] h P) (hm : m ≤ n) (w : ∀ h1 : q_Hp, P h1 → q_wp (n + 1) 269 351 [some (.ref x0), some (.int x1), some (.int x2), some (.int x3), some (.int x4), l5, l6, l7, l8, l9, l10] [] h1 Q) : q_wp (n + 1) 269 345 [some (.ref x0), some (.int x1), some (.int x2), some (.int x3), some (.int x4), l5, l6, l7, l8, l9, l10] [] h Q := by
  refine wp_loc rfl rfl ?_
  refine wp_bipush (v := 29) rfl (by decide) ?_
  exact wp_callV (av := [.ref x0, .int 29]) rfl rfl rfl (by decide) rfl rfl rfl hm hc w
set_option maxRecDepth 20000 in
theorem b269_351 {n : Nat} {h : q_Hp} {Q : Option Value → q_Hp → Prop} {x0 : Nat} {x1 : Int32} {x2 : Int32} {x3 : Int32} {x4 : Int32} {l5 : Option Value} {l6 : Option Value} {l7 : Option Value} {l8 : Option Value} {l9 : Option Value} {l10 : Option Value} (k0 : q_ok h x0 12) (q : Q none (q_sI h x0 68 x2)) : q_wp n 269 351 [some (.ref x0), some (.int x1), some (.int x2), some (.int x3), some (.int x4), l5, l6, l7, l8, l9, l10] [] h Q := by
  refine wp_loc rfl rfl ?_
  refine wp_loc rfl rfl ?_
  refine wp_putI rfl rfl (Or.inl rfl) rfl (fun h9 => by cases h9) k0 ?_
  exact wp_ret rfl rfl q
