/-! THE TWO READS: the first fault of the class's builder stays -/
def g_S (h h' : q_Hp) : Prop := ¬ qI h 589 15 = 0 → qI h' 589 15 = qI h 589 15 ∧ qI h' 589 16 = qI h 589 16
section ZS
variable {K : Nat → Nat} {V : Nat → Int64} {c o rF pF : Nat} {h h1 h2 : q_Hp}
theorem g_S.rf : g_S h h := fun _ => ⟨rfl, rfl⟩
theorem g_S.trans (a : g_S h h1) (b : g_S h1 h2) : g_S h h2 := fun n => by
  obtain ⟨a1, a2⟩ := a n
  obtain ⟨b1, b2⟩ := b (by rw [a1]; exact n)
  exact ⟨b1.trans a1, b2.trans a2⟩
theorem g_S.cc (a : g_S h h1) (e1 : qI h2 589 15 = qI h1 589 15) (e2 : qI h2 589 16 = qI h1 589 16) : g_S h h2 := a.trans (fun _ => ⟨e1, e2⟩)
theorem g_S.sI {x j : Nat} {v : Int32} (a : g_S h h1) (hx : ¬ (x = 589 ∧ (j = 15 ∨ j = 16))) : g_S h (q_sI h1 x j v) := a.cc (q_sI_n (by omega)) (q_sI_n (by omega))
theorem g_S.sA {x j : Nat} {v : Int32} (a : g_S h h1) : g_S h (q_sA h1 x j v) := a.cc rfl rfl
theorem g_S.sL {x j : Nat} {v : Int64} (a : g_S h h1) : g_S h (q_sL h1 x j v) := a.cc rfl rfl
theorem g_S.sR {x j v : Nat} (a : g_S h h1) : g_S h (q_sR h1 x j v) := a.cc rfl rfl
theorem g_S.fa {n : Int32} {x : Nat} (a : g_S h h1) : g_S h (g_fa n x h1) := a.trans (fun n1 => by
  unfold g_fa
  rw [if_neg n1]
  exact ⟨rfl, rfl⟩)
theorem g_S.ite {p : Prop} [Decidable p] (a : g_S h h1) (b : g_S h h2) : g_S h (if p then h1 else h2) := by
  split
  · exact a
  · exact b
theorem g_S.fw {w : Option Nat} {x : Nat} (a : g_S h h1) : g_S h (g_fw x w h1) := g_S.ite a.fa a
theorem g_S.dw {w : Option Nat} {x : Nat} (a : g_S h h1) : g_S h (g_dw x w h1) := g_S.ite a a.fa
theorem g_S.xw {x : Nat} {v : Int64} (a : g_S h h1) : g_S h (g_xw x v h1) := g_S.ite a a.fa
theorem g_S.yw {x : Nat} {v : Int64} (a : g_S h h1) : g_S h (g_yw x v h1) := g_S.ite a a.fa
theorem g_S.tl {m : Nat} {v : Int64} {kd nu ty : Int32} (a : g_S h h1) : g_S h (g_tl m v kd nu ty h1) := a.sL.sA.sA.sA.sA.sI (by omega)
theorem g_S.cx {x y : Int32} (a : g_S h h1) (hc : ¬ c = 589) : g_S h (g_cx c x y h1) := a.sA.sA.sI (by omega)
theorem g_S.U {m a : Nat} {rg : Nat → q_Hp → q_Hp} (hc : ¬ c = 589) (hr : ∀ a h1, g_S h h1 → g_S h (rg a h1)) (H : g_S h h1) : g_S h (g_U K V c m rg a h1) := g_S.ite (H.cx hc) (g_S.ite (hr _ _ H) (H.fw.xw.cx hc))
theorem g_S.sn {sg : Nat} {neg : Bool} (hc : ¬ c = 589) (H : g_S h h1) : g_S h (g_sn c neg sg h1) := by
  have H2 : g_S h (g_ng c neg h1) := g_S.ite (H.cx hc) H
  exact g_S.ite H2 (H2.cx hc)
theorem g_S.R {m : Nat} {r : Nat → Nat} {rg : Nat → q_Hp → q_Hp} (hc : ¬ c = 589) (hr : ∀ a h1, g_S h h1 → g_S h (rg a h1)) : ∀ n neg sg a h1, g_S h h1 → g_S h (g_R K V c m r rg n neg sg a h1) := by
  intro n
  induction n with
  | zero => intro neg sg a h1 H; exact H.sn hc
  | succ n ih =>
    intro neg sg a h1 H
    unfold g_R
    split
    · exact ih _ _ _ _ ((H.U hc hr).cx hc)
    · split
      · exact ih _ _ _ _ ((H.sn hc).U hc hr)
      · exact H.sn hc
theorem g_S.E {m : Nat} (hc : ¬ c = 589) : ∀ n a h1, g_S h h1 → g_S h (g_E K V c m n a h1) := by
  intro n
  induction n with
  | zero => intro a h1 H; exact H
  | succ n ih =>
    intro a h1 H
    unfold g_E
    exact g_S.R hc ih _ _ _ _ _ (H.U hc ih)
theorem g_S.n1 {nt m a : Nat} (H : g_S h h1) : g_S h (g_n1 V nt m a h1) := H.dw.fw
theorem g_S.l1 {ns m a : Nat} (H : g_S h h1) : g_S h (g_l1 V ns m a h1) := H.dw.fw.fw.fw
theorem g_S.no {nt n m a : Nat} (H : g_S h h1) (ho : ¬ o = 589) : g_S h (g_no V nt o n m a h1) := (H.n1.sA.sI (by omega)).tl
theorem g_S.nn {nt k m a : Nat} (H : g_S h h1) : g_S h (g_nn V nt o k m a h1) := H.n1.sA.tl
theorem g_S.lk {i : Nat} {s f t : Int32} (H : g_S h h1) : g_S h (g_lk o i s f t h1) := H.sA.sA.sA
theorem g_S.li {ns l m a : Nat} (H : g_S h h1) (ho : ¬ o = 589) : g_S h (g_li V ns o l m a h1) := (H.l1.lk.sI (by omega)).tl
theorem g_S.nk {ns k w m a : Nat} (H : g_S h h1) : g_S h (g_nk V ns o k w m a h1) := H.l1.lk.sA.tl
theorem g_S.t1 {m i a : Nat} (H : g_S h h1) (hc : ¬ c = 589) : g_S h (g_t1 K V c m o i a h1) := (g_S.E hc _ _ _ H.sA).sA
theorem g_S.te {m t a : Nat} (H : g_S h h1) (hc : ¬ c = 589) (ho : ¬ o = 589) : g_S h (g_te K V c m o t a h1) := ((H.t1 hc).sA.sI (by omega)).t1 hc
theorem g_S.dd {d : Nat} {x y z w : Int32} (H : g_S h h1) (ho : ¬ o = 589) : g_S h (g_dd o d x y z w h1) := H.sA.sA.sA.sA.sI (by omega)
theorem g_S.de {d m a : Nat} (H : g_S h h1) (ho : ¬ o = 589) : g_S h (g_de V o d m a h1) := by
  unfold g_de
  cases g_ft 3 m (V (a + 1)) h1 with
  | none => exact H.fa
  | some j => exact g_S.ite (H.sA.dd ho) (((g_S.ite H.sA.fa H.sA).dd ho).sI (by omega))
theorem g_S.nw {nt d w m a : Nat} (H : g_S h h1) (ho : ¬ o = 589) : g_S h (g_nw V nt o d w m a h1) := ((H.n1.sI (by omega)).dd ho).tl
theorem g_S.jo {nt ns d m a : Nat} (H : g_S h h1) (ho : ¬ o = 589) : g_S h (g_jo V c nt ns o d m a h1) := by
  have H2 : ∀ oa os ob, g_S h (g_j2 c nt ns a oa os ob (g_fw (a + 1) oa h1)) := fun oa os ob => g_S.ite H.fw.fa (g_S.ite H.fw.fa H.fw)
  exact (((H2 _ _ _).fw).dd ho).sI (by omega)
theorem g_S.se {d m a : Nat} (H : g_S h h1) (hc : ¬ c = 589) (ho : ¬ o = 589) : g_S h (g_se K V c o d m a h1) := by
  have H2 : g_S h (g_s1 V m a h1) := H.fw.xw
  exact (H2.t1 hc).dd ho
theorem g_S.lf {nt ns : Nat} (ho : ¬ o = 589) : ∀ m n l s h1, g_S h h1 → g_S h (g_lf K V nt ns o m n l s h1) := by
  intro m
  induction m with
  | zero => intro n l s h1 H; exact H
  | succ m ih =>
    intro n l s h1 H
    unfold g_lf
    exact g_S.ite (ih _ _ _ _ (H.no ho)) (g_S.ite (ih _ _ _ _ (H.li ho)) (g_S.ite (ih _ _ _ _ (H.sI (by omega))) H))
theorem g_S.nl {nt ns k aa : Nat} : ∀ m n l s h1, g_S h h1 → g_S h (g_nl K V nt ns o k aa m n l s h1) := by
  intro m
  induction m with
  | zero => intro n l s h1 H; exact H
  | succ m ih =>
    intro n l s h1 H
    unfold g_nl
    exact g_S.ite (ih _ _ _ _ H.nn) (g_S.ite (ih _ _ _ _ H.nk) H)
theorem g_S.n0 {q : Nat} (H : g_S h h1) (ho : ¬ o = 589) : g_S h (g_n0 o q h1) := H.sA.sA.sI (by omega)
theorem g_S.nO {nt ns q m : Nat} {s : y_S} (H : g_S h h1) (ho : ¬ o = 589) : g_S h (g_nO K V nt ns o q m s h1) := (g_S.nl _ _ _ _ _ (H.n0 ho)).sI (by omega)
theorem g_S.nts {nt ns m : Nat} (ho : ¬ o = 589) : ∀ f q s h1, g_S h h1 → g_S h (g_nts K V nt ns o m f q s h1) := by
  intro f
  induction f with
  | zero => intro q s h1 H; exact H
  | succ f ih =>
    intro q s h1 H
    unfold g_nts
    exact g_S.ite (ih _ _ _ (H.nO ho)) H
theorem g_S.tss {m : Nat} (hc : ¬ c = 589) (ho : ¬ o = 589) : ∀ f t s h1, g_S h h1 → g_S h (g_tss K V c o m f t s h1) := by
  intro f
  induction f with
  | zero => intro t s h1 H; exact H
  | succ f ih =>
    intro t s h1 H
    unfold g_tss
    exact g_S.ite (ih _ _ _ (H.te hc ho)) H
theorem g_S.d1 {nt ns d m w a : Nat} (H : g_S h h1) (hc : ¬ c = 589) (ho : ¬ o = 589) : g_S h (g_d1 K V c nt ns o d m w a h1) := g_S.ite (H.de ho) (g_S.ite (H.nw ho) (g_S.ite (H.jo ho) (H.se hc ho)))
theorem g_S.dss {nt ns : Nat} (hc : ¬ c = 589) (ho : ¬ o = 589) : ∀ f d s h1, g_S h h1 → g_S h (g_dss K V c nt ns o f d s h1) := by
  intro f
  induction f with
  | zero => intro d s h1 H; exact H
  | succ f ih =>
    intro d s h1 H
    unfold g_dss
    exact g_S.ite (ih _ _ _ (H.d1 hc ho)) H
theorem g_S.ru0 {nr np a : Nat} (H : g_S h h1) (ho : ¬ g_ro c nr = 589) : g_S h (g_ru0 V c nr np a h1) := ((((((((((H.dw.dw.sR).sI (by omega)).sI (by omega)).sI (by omega)).sI (by omega)).sI (by omega)).sI (by omega)).sI (by omega)).sI (by omega)).sI (by omega)).sI (by omega)
theorem g_S.ru {nt ns nr np a : Nat} (H : g_S h h1) (hc : ¬ c = 589) (ho : ¬ g_ro c nr = 589) : g_S h (g_ru K V c nt ns nr np a h1) := (g_S.dss hc ho _ _ _ _ (g_S.tss hc ho _ _ _ _ (g_S.nts ho _ _ _ _ (g_S.lf ho _ _ _ _ _ (H.ru0 ho))))).sI (by omega)
theorem g_S.ty {nt a : Nat} (H : g_S h h1) (hc : ¬ c = 589) : g_S h (g_ty K V c nt a h1) := ((g_S.ite H.dw.fw H.dw).sL.sA).sI (by omega)
theorem g_S.so {nt ns a : Nat} (H : g_S h h1) (hc : ¬ c = 589) : g_S h (g_so V c nt ns a h1) := (H.dw.fw.fw.sL.sA.sA).sI (by omega)
theorem g_S.dd2 {D : Nat} {x : Int32} (H : g_S h h1) (hc : ¬ c = 589) : g_S h (g_do c D x h1) := (H.sI (by omega)).sA.sA.sA.sA.sA.sA
theorem g_S.pt {j k : Nat} {x : Int32} (H : g_S h h1) : g_S h (g_pt c j k x h1) := H.sA
theorem g_S.dc {D a : Nat} (H : g_S h h1) (hc : ¬ c = 589) : g_S h (g_dc K V c rF pF D a h1) := (H.dd2 hc).fw.pt
theorem g_S.ad {D a : Nat} (H : g_S h h1) (hc : ¬ c = 589) : g_S h (g_ad V c rF D a h1) := (H.dd2 hc).fw.pt
theorem g_S.av (hc : ¬ c = 589) : ∀ m D s h1, g_S h h1 → g_S h (g_av K V c rF m D s h1) := by
  intro m
  induction m with
  | zero => intro D s h1 H; exact H
  | succ m ih =>
    intro D s h1 H
    unfold g_av
    exact g_S.ite (ih _ _ _ (H.ad hc).pt) H
theorem g_S.an {D a : Nat} (H : g_S h h1) (hc : ¬ c = 589) : g_S h (g_an K V c rF D a h1) := (g_S.av hc _ _ _ _ ((H.dd2 hc).ad hc)).pt
theorem g_S.w0 {D a : Nat} (H : g_S h h1) (hc : ¬ c = 589) : g_S h (g_w0 K V c D a h1) := g_S.ite (H.dd2 hc).yw.pt (H.dd2 hc)
theorem g_S.ln {D : Nat} {p : Int32 × Int32} (H : g_S h h1) : g_S h (g_ln c D p h1) := g_S.ite H H.pt
theorem g_S.ws {D : Nat} {rec : y_S → q_Hp → Int32 × q_Hp} {yr : y_S → y_S} {s : y_S} (hc : ¬ c = 589) (hr : ∀ s h1, g_S h h1 → g_S h (rec s h1).2) (H : g_S h h1) : g_S h (g_ws K V c D rec yr s h1) := g_S.ite (hr _ _ (hr _ _ (hr _ _ (H.w0 hc)).pt).pt).pt (hr _ _ (H.w0 hc)).pt
theorem g_S.rw (hc : ¬ c = 589) : ∀ m d s p h1, g_S h h1 → g_S h (g_rw K V c rF pF m d s p h1).2 := by
  intro m
  induction m with
  | zero => intro d s p h1 H; exact H
  | succ m ih =>
    intro d s p h1 H
    unfold g_rw
    split
    · exact ih _ _ _ _ (g_S.ln (g_S.ws hc (fun s h2 H2 => ih _ _ _ _ H2) H))
    · split
      · exact ih _ _ _ _ (g_S.ln (H.dc hc))
      · split
        · exact ih _ _ _ _ (g_S.ln (H.dd2 hc))
        · split
          · exact ih _ _ _ _ (g_S.ln (H.an hc))
          · exact H
theorem g_S.pc {nr np a : Nat} (H : g_S h h1) (hc : ¬ c = 589) : g_S h (g_pc K V c rF pF nr np a h1) := ((g_S.rw hc _ _ _ _ _ H.dw.dw).sA).sI (by omega)
end ZS
/-- both have the same fault, ahead of this token -/
def zB (P : Nat → Nat) (e b : Nat) (h k : q_Hp) : Prop := ∃ n i : Nat, ¬ n = 0 ∧ n < 10 ∧ i < b ∧ i ≤ e ∧ qI h 589 15 = nI n ∧ qI h 589 16 = nI i ∧ zf P k n i
/-- neither has a fault -/
def zO (h k : q_Hp) : Prop := qI h 589 15 = 0 ∧ qI k 630 15 = 0
section ZB
variable {P : Nat → Nat} {e b b' : Nat} {h k h' k' : q_Hp}
theorem zB.fr (M : zPm P e) (B : zB P e b h k) (S : g_S h h') (L : p_LW P b k k') (hb : b ≤ b') : zB P e b' h' k' := by
  obtain ⟨n, i, hn, h10, hi, he, q1, q2, z⟩ := B
  have h0 : ¬ qI h 589 15 = 0 := by
    rw [q1]
    intro h9
    exact hn ((nI_eq (b := 0) (by omega) (by decide)).mp h9)
  obtain ⟨s1, s2⟩ := S h0
  exact ⟨n, i, hn, h10, by omega, he, s1.trans q1, s2.trans q2, z.kp M he hn h10 (L.mono (by omega))⟩
/-- a fault of the class, where there was none -/
theorem g_fa_0 {n : Int32} {i : Nat} (h0 : qI h 589 15 = 0) : qI (g_fa n i h) 589 15 = n ∧ qI (g_fa n i h) 589 16 = nI i := by
  unfold g_fa
  rw [if_pos h0]
  exact ⟨by rw [q_sI_n (by omega), q_sI_e], q_sI_e⟩
/-- both find the same fault -/
theorem zB.mk {h1 k1 : q_Hp} {n i : Nat} (M : zPm P e) (O : zO h k) (hn : ¬ n = 0) (h10 : n < 10) (he : i ≤ e) (hb : i < b) (S : g_S (g_fa (nI n) i h1) h') (h0 : qI h1 589 15 = 0) (L1 : p_LW P (i + 1) k k1) (L2 : p_LW P (i + 1) (p_wr P n i k1) k') : zB P e b h' k' := by
  obtain ⟨q1, q2⟩ := g_fa_0 (n := nI n) (i := i) h0
  obtain ⟨s1, s2⟩ := S (by
    rw [q1]
    intro h9
    exact hn ((nI_eq (b := 0) (by omega) (by decide)).mp h9))
  exact ⟨n, i, hn, h10, hb, he, s1.trans q1, s2.trans q2, (zf.wr M he O.2 L1).kp M he hn h10 L2⟩
end ZB
