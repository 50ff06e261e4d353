/-! THE TWO READS: between two tells -/
def zK (K : Nat → Nat) (V U : Nat → Int64) (e c : Nat) (L9 L10 : Nat → Int64) (rF pF nt ns nr np Q D C : Nat) (v : Nat → Nat → Nat) (h k : q_Hp) : Prop := (zO h k ∧ qL h 9 = L9 ∧ qL h 10 = L10) ∧ zT K V U e c nt ns h k ∧ zC c Q h k ∧ (nr ≤ 20 ∧ qI h c 2 = nI nr ∧ qI k 630 20 = nI nr ∧ zna K V U e L9 (qL k 676) nr ∧ ∀ r, r < nr → zRu c nt ns Q h k r) ∧ (np ≤ 10 ∧ qI h c 3 = nI np ∧ qI k 630 21 = nI np ∧ zna K V U e L10 (qL k 677) np ∧ ∀ p, p < np → ∃ f, f ≤ D ∧ (¬ f = 0 → v (f - 1) 6 = 0) ∧ qA h (c + 5) p = oN f ∧ qA k 673 (10 + p) = oU f) ∧ qI h c 5 = nI D ∧ qI k 630 23 = nI (1300 + D) ∧ qI k 630 84 = nI C ∧ (∀ j, j < D → zdo c h k v j ∧ zdw rF pF D v j) ∧ zRc K V L9 L10 rF pF e C D v k
section ZK
variable {K P X : Nat → Nat} {V U : Nat → Int64} {L9 L10 : Nat → Int64} {rF pF : Nat} {e c np nr nt ns nt' ns' D0 d HR HI f g C D C' D' a b m q Q Q' r : Nat} {v0 v v1 v' : Nat → Nat → Nat} {h0 k0 h k h' k' h1 k1 k2 : q_Hp} {s : y_S}
theorem zRu.fr (Z : zRu c nt ns Q h k r) (cI : ∀ j, qI h' (g_ro c r) j = qI h (g_ro c r) j) (cA : ∀ i, 1 ≤ i → i < 14 → qA h' (g_ro c r + i) = qA h (g_ro c r + i)) (A : zA c Q h h') (hQ : Q ≤ Q') (ht : nt ≤ nt') (hs : ns ≤ ns') (F : p_Ki q k k') (hq : 20 + r < q) : zRu c nt' ns' Q' h' k' r := by
  obtain ⟨W, w1, w2, w3⟩ := Z
  refine ⟨W, ?_, w2.fr F hq ⟨w3.1, w3.2.1, w3.2.2.1, w3.2.2.2.1, w3.2.2.2.2.1, fun n hn => (w3.2.2.2.2.2.2.2.2.1 n hn).2.1⟩, w3.mono (B' := zB0 nt' ns' Q' c h') ht hs hQ (fun j hj => A.bc hj)⟩
  unfold r_cR at w1 ⊢
  rw [cA 1 (by decide) (by decide), cA 2 (by decide) (by decide), cA 3 (by decide) (by decide), cA 4 (by decide) (by decide), cA 5 (by decide) (by decide), cA 6 (by decide) (by decide), cA 7 (by decide) (by decide), cA 8 (by decide) (by decide), cA 9 (by decide) (by decide), cA 10 (by decide) (by decide), cA 11 (by decide) (by decide), cA 12 (by decide) (by decide), cA 13 (by decide) (by decide)]
  simp only [cI]
  exact w1
theorem zdw.cg {j : Nat} (Z : zdw rF pF D v j) (hj : j < D) (hv : ∀ y, y < D → ∀ i, v' y i = v y i) : zdw rF pF D v' j := by
  obtain ⟨z0, z1, z2, z3, z4, z5, z6⟩ := Z
  unfold zdw
  rw [hv j hj, hv j hj, hv j hj, hv j hj, hv j hj, hv j hj]
  refine ⟨z0, z1, z2, z3, ?_, fun i h1 h2 => ?_, fun q => ?_⟩
  · rcases z4 with q | ⟨q1, q2, q3⟩
    · exact Or.inl q
    · exact Or.inr ⟨q1, q2, by rw [hv _ (by omega)]; exact q3⟩
  · rw [hv j hj]
    rcases z5 i h1 h2 with q | ⟨q1, q2, q3⟩
    · exact Or.inl q
    · exact Or.inr ⟨q1, q2, by rw [hv _ (by omega)]; exact q3⟩
  · obtain ⟨y1, y2, y3, y4⟩ := z6 q
    refine ⟨y1, y2, y3, fun f h1 h2 => ?_⟩
    rw [hv f (by omega), hv f (by omega)]
    exact y4 f h1 h2
/-- dos stay -/
theorem zdo.fr2 {j : Nat} (Z : zdo c h k v j) (hv : ∀ i, v' j i = v j i) (gc : ∀ i, i < 6 → qA h' (c + 8) (6 * j + i) = qA h (c + 8) (6 * j + i)) (r9 : ∀ y, y = 669 ∨ y = 670 ∨ y = 672 → qA k' y (1300 + j) = qA k y (1300 + j)) (r1 : ∀ i, i < 3 → qA k' 671 (3 * (1300 + j) + i) = qA k 671 (3 * (1300 + j) + i)) : zdo c h' k' v' j := by
  obtain ⟨⟨z1, z2, z3⟩, z4, z5, z6, z7⟩ := Z
  unfold zdo
  rw [hv, hv, hv]
  refine ⟨⟨(gc 0 (by decide)).trans z1, fun q => (gc 1 (by decide)).trans (z2 q), fun i h1 h2 => by rw [hv]; exact (gc i h2).trans (z3 i h1 h2)⟩, (r9 _ (by omega)).trans z4, fun q => (r9 _ (by omega)).trans (z5 q), (r9 _ (by omega)).trans z6, fun i hi => by rw [hv]; exact (r1 i hi).trans (z7 i hi)⟩
/-- procs and dos stay where nothing of theirs is touched -/
theorem zK.pd (Z : zK K V U e c L9 L10 rF pF nt ns nr np Q D C v h k) (c3 : qI h' c 3 = qI h c 3) (c5 : qI h' c 5 = qI h c 5) (a5 : qA h' (c + 5) = qA h (c + 5)) (a8 : qA h' (c + 8) = qA h (c + 8)) (i : ∀ j, j = 21 ∨ j = 23 ∨ j = 84 → qI k' 630 j = qI k 630 j) (ak : ∀ y, (669 ≤ y ∧ y ≤ 673) ∨ y = 689 ∨ y = 690 → qA k' y = qA k y) (l : qL k' 677 = qL k 677) : (np ≤ 10 ∧ qI h' c 3 = nI np ∧ qI k' 630 21 = nI np ∧ zna K V U e L10 (qL k' 677) np ∧ ∀ p, p < np → ∃ f, f ≤ D ∧ (¬ f = 0 → v (f - 1) 6 = 0) ∧ qA h' (c + 5) p = oN f ∧ qA k' 673 (10 + p) = oU f) ∧ qI h' c 5 = nI D ∧ qI k' 630 23 = nI (1300 + D) ∧ qI k' 630 84 = nI C ∧ (∀ j, j < D → zdo c h' k' v j ∧ zdw rF pF D v j) ∧ zRc K V L9 L10 rF pF e C D v k' := by
  obtain ⟨_, _, _, _, ⟨z1, z2, z3, z4, z5⟩, z6, z7, z8, z9, z10⟩ := Z
  refine ⟨⟨z1, c3.trans z2, (i _ (by omega)).trans z3, by rw [l]; exact z4, fun p hp => ?_⟩, c5.trans z6, (i _ (by omega)).trans z7, (i _ (by omega)).trans z8, fun j hj => ⟨(z9 j hj).1.fr2 (fun _ => rfl) (fun _ _ => by rw [a8]) (fun y hy => by rw [ak y (by omega)]) (fun _ _ => by rw [ak 671 (by omega)]), (z9 j hj).2⟩, ?_⟩
  · rw [a5, ak 673 (by omega)]
    exact z5 p hp
  · unfold zRc at z10 ⊢
    rw [ak 669 (by omega), ak 689 (by omega), ak 690 (by omega)]
    exact z10
theorem p_Ki.eq (F : ∀ y, 641 ≤ y → y ≤ 665 → qA k' y = qA k y) : p_Ki q k k' := fun x i h1 h2 _ => by rw [F x h1 h2]
theorem g_ro.in (hc : c = 11 ∨ c = 300) (hr : r < 20) : q_isO (g_ro c r) := ⟨c, r, hc, hr, rfl⟩
/-- all rules stay -/
theorem zK.rs (Z : zK K V U e c L9 L10 rF pF nt ns nr np Q D C v h k) (cI : ∀ r j, r < nr → qI h' (g_ro c r) j = qI h (g_ro c r) j) (cA : ∀ r i, r < nr → 1 ≤ i → i < 14 → qA h' (g_ro c r + i) = qA h (g_ro c r + i)) (A : zA c Q h h') (hQ : Q ≤ Q') (ht : nt ≤ nt') (hs : ns ≤ ns') (F : ∀ r, r < nr → p_Ki (20 + nr) k k') : ∀ r, r < nr → zRu c nt' ns' Q' h' k' r := fun r hr => (Z.2.2.2.1.2.2.2.2 r hr).fr (fun j => cI r j hr) (fun i h1 h2 => cA r i hr h1 h2) A hQ ht hs (F r hr) (by omega)
theorem p_LW.ty (x : p_LW P a k k1) (h : a ≤ s.1) : p_LW P a k (p_ty K P U nt s k1) := by
  unfold p_ty p_ty2 p_ty1
  have y : p_LW P a k (q_sA (p_dw P (s.1 + 1) (p_fi (qL k1 674) nt (U (s.1 + 1))) k1) 638 (12 + nt) (-1)) := (x.dw (by omega)).sA
  refine p_LW.sI (p_LW.sL ?_) (by decide) (by decide)
  split
  · exact (y.fw (by omega)).sA
  · exact y
theorem p_LW.so (x : p_LW P a k k1) (h : a ≤ s.1) : p_LW P a k (p_so P U nt ns s k1) := by
  unfold p_so p_so1
  exact ((((((x.dw (by omega)).fw (by omega)).sA).fw (by omega)).sA).sL).sI (by decide) (by decide)
theorem p_LW.tw (x : p_LW P a k k1) (h : a ≤ b) : p_LW P a k (p_tw P U b nr np k1) := (x.dw h).dw h
theorem p_K.ru (ha : a ≤ s.1 + 2) : p_K P a zJJ zDD (p_ru0 P U nr np s k) (p_ru K P X U nt ns nr np s k) := by
  have td := y_to.ds (K := K) 9 0 _ _ (y_to.rf (s := y_ts K 5 0 (y_nt K 3 0 (y_r1 K s))))
  have ts := y_to.ts (K := K) 5 0 _ _ (y_to.rf (s := y_nt K 3 0 (y_r1 K s)))
  have tn := y_to.nt (K := K) 3 0 _ _ (y_to.rf (s := y_r1 K s))
  have r2 := Nat.le_trans ha (y_r1_le (K := K) (s := s))
  exact p_K.dss2 (Nat.le_trans (Nat.le_trans r2 tn.1) ts.1) (p_K.tss2 (Nat.le_trans r2 tn.1) (p_K.nts2 r2 (p_K.lf2 ha p_K.rf)))
theorem p_LW.ru (x : p_LW P a k k1) (h : a ≤ s.1) : p_LW P a k (p_ru K P X U nt ns nr np s k1) := by
  refine p_LW.trans ?_ (p_K.ru (K := K) (X := X) (P := P) (U := U) (nt := nt) (ns := ns) (nr := nr) (np := np) (k := k1) (s := s) (a := a) (by omega)).2.2.2
  unfold p_ru0
  exact (((((((((x.tw (b := s.1 + 1) (by omega)).sL).sI (by decide) (by decide)).sA).sA).sA).sA).sA).sA).sI (by decide) (by decide)
theorem p_ru_676 : qL (p_ru K P X U nt ns nr np s k) 676 = fun i => if i = nr then U (s.1 + 1) else qL k 676 i := by
  have := (p_K.ru (K := K) (X := X) (P := P) (U := U) (nt := nt) (ns := ns) (nr := nr) (np := np) (k := k) (s := s) (a := 0) (Nat.zero_le _)).2.2.1 676 (by decide)
  rw [this]
  funext i
  unfold p_ru0
  rw [qL_sI, qL_sA, qL_sA, qL_sA, qL_sA, qL_sA, qL_sA, qL_sI, qL_sL, p_tw_L]
  by_cases h9 : i = nr
  · rw [if_pos ⟨rfl, h9⟩, if_pos h9]
  · rw [if_neg (fun q => h9 q.2), if_neg h9]
theorem zna.ad2 {f g g' : Nat → Int64} {n : Nat} (Z : zna K V U e f g n) (N : zN K e a) (h1 : f n = V a) (h2 : ∀ j, g' j = if j = n then U a else g j) : zna K V U e f g' (n + 1) := Z.add N (fun j => by
  by_cases h9 : j = n
  · rw [if_pos h9, h9, h1]
  · rw [if_neg h9]) h2
/-- where a fault is, another tell goes on -/
theorem zBr.gn (M : zPm P e) (hc : ¬ c = 589) (B : zBr K P V L9 L10 rF pF e b C D h k) (S : g_S h h') (e1 : qI k' 630 84 = qI k 630 84) (e2 : qI k' 630 23 = qI k 630 23) (e3 : ∀ y, y = 669 ∨ y = 689 ∨ y = 690 → qA k' y = qA k y) (L : p_LW P b k k') (hb : b ≤ a) : zBr K P V L9 L10 rF pF e a C D h' k' := B.fr M S ((zRf.rf B.1.1 B.1.2.1).cc e1 e2 e3 L) hb (Nat.le_trans B.1.2.2.1 hb) (Nat.le_trans B.1.2.2.2 hb)
end ZK
