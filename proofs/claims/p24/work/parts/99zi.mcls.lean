/-! may, in the class: the rounds. -/
def FEQ (g : zG) (f F : zI) : Prop := ∀ y, (g.2.1 y ≠ 1 → F y = f y) ∧ ∀ k, k < 8 → F y k = f y k
theorem FEQ.rf {g : zG} {f : zI} : FEQ g f f := fun _ => ⟨fun _ => rfl, fun _ _ => rfl⟩
theorem FEQ.tr {g : zG} {f F F' : zI} (h : FEQ g f F) (k : FEQ g F F') : FEQ g f F' := fun y => ⟨fun z => ((k y).1 z).trans ((h y).1 z), fun j hj => ((k y).2 j hj).trans ((h y).2 j hj)⟩
theorem FEQ.up {g : zG} {f : zI} {a k : Nat} {v : Int32} (ha : g.2.1 a = 1) (hk : 8 ≤ k) : FEQ g f (zup f a k v) := fun y => ⟨fun z => zup_r (fun w => z (by rw [w]; exact ha)), fun j hj => zup_ne _ _ _ _ (Or.inr (by omega))⟩
/-- where may works -/
def MCX (b0 n0 : Nat) (g : zG) (f0 M : zI) (t : zTs) (R : zRf) (L : List Nat) : Prop :=
  (∀ m ∈ L, RD M L m) ∧ BOm g M t R ∧ (∀ m ∈ L, ¬ M 1 (5 * m) = nI 16 → g.2.1 (t.2.1 m) = 1 ∧ ∃ κ e, κ ≤ 15 ∧ M 1 (5 * m) = nI κ ∧ m < e ∧ e ≤ 65000 ∧ EN b0 n0 g f0 (M 1) (e, t.2) κ m) ∧
  ∀ m ∈ L, ∀ m' ∈ L, ¬ M 1 (5 * m) = nI 16 → ¬ M 1 (5 * m') = nI 16 → t.2.1 m = t.2.1 m' → m = m'
section MCLS
variable {b0 n0 : Nat} {g : zG} {f0 f F F' M : zI} {t : zTs} {R : zRf} {L : List Nat}
theorem MCX.stp (h : MCX b0 n0 g f0 M t R L) (hf : FEQ g f0 f) {m : Nat} (hm : m ∈ L) (h16 : ¬ M 1 (5 * m) = nI 16) : gnl g R f (t.2.1 m) = pleaves (mT f M t) (nI m) ∧ gnt g R f (t.2.1 m) = plate (mT f M t) (nI m) := by
  obtain ⟨-, κ, e, k1, k2, k3, k4, k5⟩ := h.2.2.1 m hm h16
  have hE : EN b0 n0 g f (M 1) (e, t.2) κ m := k5.mvz (Z := fun _ => False) ⟨zLe.rf, ZZ.non n0 _, fun y _ _ _ => ⟨rfl, (hf y).1, (hf y).2⟩⟩
  exact mlvA hE k4 k3 k2 h.2.1 k1
/-- a clause's node has its body's notes -/
theorem MCX.cl (h : MCX b0 n0 g f0 M t R L) {j : Nat} (hj : j ∈ L) (h16 : M 1 (5 * j) = nI 16) : ∃ b, b ∈ L ∧ ¬ M 1 (5 * b) = nI 16 ∧ (∀ f, mT f M t 14 j = mT f M t 14 b ∧ mT f M t 15 j = mT f M t 15 b) ∧ ∀ N, psame M N → pleaves N (nI j) = N 14 b ∧ plate N (nI j) = N 15 b := by
  obtain ⟨j65, hr⟩ := h.1 j hj
  rcases hr with ⟨-, b, b1, b2, b3, b4⟩ | ⟨κ, k1, k2, -⟩
  · refine ⟨b, b1, b4, fun f => ?_, fun N hN => mlvC j65 h16 b3 b2 (hN 1 (by decide) (by decide))⟩
    obtain ⟨y1, y2⟩ := mT_c (f := f) (M := M) (t := t) h16 b3 (by omega)
    rw [y1, y2, mT_14 b4, mT_15 b4]
    exact ⟨rfl, rfl⟩
  · exact absurd ((nI_eq (by omega) (by decide)).mp (k2.symm.trans h16)) (by omega)
def GC (g : zG) (f0 M : zI) (t : zTs) (L : List Nat) (f F : zI) : Prop := FEQ g f0 F ∧ PRE L (mT F M t) ∧ LE2 L (mT f M t) (mT F M t) ∧ ∀ X, psame M X → FIX L X → LE2 L (mT f M t) X → LE2 L (mT F M t) X
theorem GC.tr (h : GC g f0 M t L f F) (k : GC g f0 M t L F F') : GC g f0 M t L f F' := ⟨k.1, k.2.1, h.2.2.1.tr k.2.2.1, fun X a b c => k.2.2.2 X a b (h.2.2.2 X a b c)⟩
theorem GC.rf (hs : FEQ g f0 f) (hp : PRE L (mT f M t)) : GC g f0 M t L f f := ⟨hs, hp, LE2.rf, fun _ _ _ c => c⟩
theorem gg_v {a y : Nat} : ggatF g R f a y 8 = (if y = a then gnl g R f a else f y 8) ∧ ggatF g R f a y 9 = (if y = a then gnt g R f a else f y 9) := by
  unfold ggatF
  by_cases q : y = a
  · subst q
    rw [if_pos rfl, if_pos rfl, zup_ne _ _ _ _ (by omega), zup_at, zup_at]
    exact ⟨rfl, rfl⟩
  · rw [if_neg q, if_neg q, zup_r q, zup_r q]
    exact ⟨rfl, rfl⟩
theorem MCX.tab (h : MCX b0 n0 g f0 M t R L) (hf : FEQ g f0 f) {m j : Nat} (hm : m ∈ L) (h16 : ¬ M 1 (5 * m) = nI 16) (hj : j ∈ L) (j16 : ¬ M 1 (5 * j) = nI 16) : mT (ggatF g R f (t.2.1 m)) M t 14 j = (if j = m then pleaves (mT f M t) (nI m) else mT f M t 14 j) ∧ mT (ggatF g R f (t.2.1 m)) M t 15 j = (if j = m then plate (mT f M t) (nI m) else mT f M t 15 j) := by
  obtain ⟨s1, s2⟩ := h.stp hf hm h16
  rw [mT_14 j16, mT_15 j16, mT_14 j16, mT_15 j16, (gg_v (g := g) (R := R) (f := f) (a := t.2.1 m) (y := t.2.1 j)).1, (gg_v (g := g) (R := R) (f := f) (a := t.2.1 m) (y := t.2.1 j)).2, s1, s2]
  by_cases q : j = m
  · subst q
    rw [if_pos rfl, if_pos rfl, if_pos rfl, if_pos rfl]
    exact ⟨rfl, rfl⟩
  · have q2 : ¬ t.2.1 j = t.2.1 m := fun z => q (h.2.2.2 j hj m hm j16 h16 z)
    rw [if_neg q, if_neg q, if_neg q2, if_neg q2]
    exact ⟨rfl, rfl⟩
theorem GC.one (h : MCX b0 n0 g f0 M t R L) (hf : FEQ g f0 f) (hp : PRE L (mT f M t)) {m : Nat} (hm : m ∈ L) (h16 : ¬ M 1 (5 * m) = nI 16) : GC g f0 M t L f (ggatF g R f (t.2.1 m)) := by
  have hg : FEQ g f (ggatF g R f (t.2.1 m)) := (FEQ.up (h.2.2.1 m hm h16).1 (by decide)).tr (FEQ.up (h.2.2.1 m hm h16).1 (by decide))
  have hle0 : ∀ j ∈ L, ¬ M 1 (5 * j) = nI 16 → sle (mT f M t 14 j) (mT (ggatF g R f (t.2.1 m)) M t 14 j) ∧ sle (mT f M t 15 j) (mT (ggatF g R f (t.2.1 m)) M t 15 j) := fun j hj j16 => by
    obtain ⟨t1, t2⟩ := h.tab hf hm h16 hj j16
    rw [t1, t2]
    by_cases q : j = m
    · subst q
      rw [if_pos rfl, if_pos rfl]; exact hp j hj
    · rw [if_neg q, if_neg q]; exact ⟨sle.rf, sle.rf⟩
  have hle : LE2 L (mT f M t) (mT (ggatF g R f (t.2.1 m)) M t) := fun j hj => by
    by_cases j16 : M 1 (5 * j) = nI 16
    · obtain ⟨b, b1, b2, b3, -⟩ := h.cl hj j16
      rw [(b3 f).1, (b3 f).2, (b3 _).1, (b3 _).2]
      exact hle0 b b1 b2
    · exact hle0 j hj j16
  refine ⟨hf.tr hg, fun j hj => ?_, hle, fun X hX hF hNX => ?_⟩
  · by_cases j16 : M 1 (5 * j) = nI 16
    · obtain ⟨b, b1, b2, b3, b4⟩ := h.cl hj j16
      obtain ⟨b5, b6⟩ := b4 (mT (ggatF g R f (t.2.1 m)) M t) mT_same
      rw [b5, b6, (b3 _).1, (b3 _).2]
      exact ⟨sle.rf, sle.rf⟩
    · have hmo := (h.1 j hj).mono (mT_same (f := f) (t := t)) (mT_same (f := ggatF g R f (t.2.1 m)) (t := t)) hle
      obtain ⟨t1, t2⟩ := h.tab hf hm h16 hj j16
      rw [t1, t2]
      by_cases q : j = m
      · subst q
        rw [if_pos rfl, if_pos rfl]; exact hmo
      · rw [if_neg q, if_neg q]
        exact ⟨(hp j hj).1.tr hmo.1, (hp j hj).2.tr hmo.2⟩
  · have one : ∀ j ∈ L, ¬ M 1 (5 * j) = nI 16 → sle (mT (ggatF g R f (t.2.1 m)) M t 14 j) (X 14 j) ∧ sle (mT (ggatF g R f (t.2.1 m)) M t 15 j) (X 15 j) := fun j hj j16 => by
      obtain ⟨t1, t2⟩ := h.tab hf hm h16 hj j16
      rw [t1, t2]
      by_cases q : j = m
      · subst q
        rw [if_pos rfl, if_pos rfl, (hF j hj).1, (hF j hj).2]
        exact (h.1 j hj).mono mT_same hX hNX
      · rw [if_neg q, if_neg q]; exact hNX j hj
    intro j hj
    by_cases j16 : M 1 (5 * j) = nI 16
    · obtain ⟨b, b1, b2, b3, b4⟩ := h.cl hj j16
      obtain ⟨b5, b6⟩ := b4 X hX
      rw [(b3 _).1, (b3 _).2, (hF j hj).1, (hF j hj).2, b5, b6]
      exact one b b1 b2
    · exact one j hj j16
def FXc (g : zG) (R : zRf) (f : zI) (a : Nat) : Prop := f a 8 = gnl g R f a ∧ f a 9 = gnt g R f a
def RNC (g : zG) (f0 M : zI) (t : zTs) (R : zRf) (L : List Nat) (f : zI) (b : Int32) (q : zI × Int32) (P : Nat → Prop) : Prop := GC g f0 M t L f q.1 ∧ (q.2 = 0 → b = 0 ∧ q.1 = f ∧ ∀ a, P a → FXc g R f a) ∧ (¬ q.2 = 0 → ¬ b = 0 ∨ mu L (mT f M t) < mu L (mT q.1 M t))
theorem RNC.tr {b : Int32} {q q' : zI × Int32} {P P' P'' : Nat → Prop} (h : RNC g f0 M t R L f b q P) (k : RNC g f0 M t R L q.1 q.2 q' P') (hP : ∀ m, P'' m → P m ∨ P' m) : RNC g f0 M t R L f b q' P'' := by
  obtain ⟨h1, h2, h3⟩ := h
  obtain ⟨k1, k2, k3⟩ := k
  refine ⟨h1.tr k1, fun z => ?_, fun z => ?_⟩
  · obtain ⟨y1, y2, y3⟩ := k2 z
    obtain ⟨x1, x2, x3⟩ := h2 y1
    refine ⟨x1, y2.trans x2, fun m hm => ?_⟩
    rcases hP m hm with w | w
    · exact x3 m w
    · have := y3 m w
      rw [x2] at this; exact this
  · rcases k3 z with y | y
    · rcases h3 y with x | x
      · exact Or.inl x
      · exact Or.inr (Nat.lt_of_lt_of_le x (mu_le L k1.2.2.1))
    · exact Or.inr (Nat.lt_of_le_of_lt (mu_le L h1.2.2.1) y)
theorem RNC.rf (hf : FEQ g f0 f) (hp : PRE L (mT f M t)) (b : Int32) : RNC g f0 M t R L f b (f, b) (fun _ => False) := ⟨GC.rf hf hp, fun z => ⟨z, rfl, fun _ h => absurd h id⟩, fun z => Or.inl z⟩
theorem gga_0 {a : Nat} (h : ggatA g R f a = 0) : ggatF g R f a = f ∧ FXc g R f a := by
  have hc : gnl g R f a = f a 8 ∧ gnt g R f a = f a 9 := by
    by_cases c1 : gnl g R f a = f a 8
    · by_cases c2 : gnt g R f a = f a 9
      · exact ⟨c1, c2⟩
      · rw [ggatA_2 c1 c2] at h; exact absurd h (by decide)
    · rw [ggatA_1 c1] at h; exact absurd h (by decide)
  refine ⟨?_, hc.1.symm, hc.2.symm⟩
  unfold ggatF
  rw [zup_self hc.1.symm, zup_self hc.2.symm]
theorem gga_1 (h : MCX b0 n0 g f0 M t R L) (hf : FEQ g f0 f) (hp : PRE L (mT f M t)) {m : Nat} (hm : m ∈ L) (h16 : ¬ M 1 (5 * m) = nI 16) (hn : ¬ ggatA g R f (t.2.1 m) = 0) : mu L (mT f M t) < mu L (mT (ggatF g R f (t.2.1 m)) M t) := by
  refine mu_lt L (GC.one h hf hp hm h16).2.2.1 ⟨m, hm, fun z => hn ?_⟩
  rw [mT_14 h16, mT_15 h16, mT_14 h16, mT_15 h16, (gg_v (g := g) (R := R) (f := f) (a := t.2.1 m) (y := t.2.1 m)).1, (gg_v (g := g) (R := R) (f := f) (a := t.2.1 m) (y := t.2.1 m)).2, if_pos rfl, if_pos rfl] at z
  exact ggatA_0 z.1.symm z.2.symm
theorem RNC.one (h : MCX b0 n0 g f0 M t R L) (hf : FEQ g f0 f) (hp : PRE L (mT f M t)) {m : Nat} (hm : m ∈ L) (h16 : ¬ M 1 (5 * m) = nI 16) (b : Int32) : RNC g f0 M t R L f b (ggatF g R f (t.2.1 m), if ggatA g R f (t.2.1 m) = 0 then b else 1) (fun a => a = t.2.1 m) := by
  refine ⟨GC.one h hf hp hm h16, fun z => ?_, fun z => ?_⟩
  · by_cases c : ggatA g R f (t.2.1 m) = 0
    · obtain ⟨y1, y2⟩ := gga_0 c
      have z : (if ggatA g R f (t.2.1 m) = 0 then b else 1) = 0 := z
      rw [if_pos c] at z
      exact ⟨z, y1, fun a ha => by rw [ha]; exact y2⟩
    · have z : (if ggatA g R f (t.2.1 m) = 0 then b else 1) = 0 := z
      rw [if_neg c] at z
      exact absurd z (by decide)
  · by_cases c : ggatA g R f (t.2.1 m) = 0
    · have z : ¬ (if ggatA g R f (t.2.1 m) = 0 then b else 1) = 0 := z
      rw [if_pos c] at z
      exact Or.inl z
    · exact Or.inr (gga_1 h hf hp hm h16 c)
/-- the rounds' parts -/
theorem grd_go (h : MCX b0 n0 g f0 M t R L) {A : Nat} : ∀ (k : Nat) (f : zI) (b : Int32), FEQ g f0 f → PRE L (mT f M t) → (∀ i, i < k → ∃ m, m ∈ L ∧ ¬ M 1 (5 * m) = nI 16 ∧ pA g A i = t.2.1 m) → RNC g f0 M t R L f b (grd g R A k (f, b)) (fun a => ∃ i, i < k ∧ a = pA g A i) := by
  intro k
  induction k with
  | zero =>
    intro f b hf hp _
    exact (RNC.rf hf hp b).tr (RNC.rf hf hp b) (fun a ha => by
      obtain ⟨i, hi, -⟩ := ha
      omega)
  | succ k ih =>
    intro f b hf hp hA
    obtain ⟨m, m1, m2, m3⟩ := hA k (by omega)
    have h1 := RNC.one h hf hp m1 m2 b
    rw [← m3] at h1
    have h2 := ih (ggatF g R f (pA g A k)) (if ggatA g R f (pA g A k) = 0 then b else 1) h1.1.1 h1.1.2.1 (fun i hi => hA i (by omega))
    exact h1.tr h2 (fun a ha => by
      obtain ⟨i, hi, ea⟩ := ha
      by_cases q : i = k
      · subst q; exact Or.inl ea
      · exact Or.inr ⟨i, by omega, ea⟩)
/-- a body's expressions lie among the nodes -/
def BDL (g : zG) (M : zI) (t : zTs) (L : List Nat) (r : Option Nat) : Prop := ∀ a, r = some a → ∀ i, i < g.2.2.1 (pA g a 1) → ∃ m, m ∈ L ∧ ¬ M 1 (5 * m) = nI 16 ∧ pA g (pA g a 1) i = t.2.1 m
def inB (g : zG) (r : Option Nat) (x : Nat) : Prop := ∃ a, r = some a ∧ ∃ i, i < g.2.2.1 (pA g a 1) ∧ x = pA g (pA g a 1) i
theorem gro_go (h : MCX b0 n0 g f0 M t R L) (hf : FEQ g f0 f) (hp : PRE L (mT f M t)) {r : Option Nat} (hr : BDL g M t L r) : RNC g f0 M t R L f 0 (gro g R r f) (inB g r) := by
  cases r with
  | none =>
    exact (RNC.rf hf hp 0).tr (RNC.rf hf hp 0) (fun a ha => by
      obtain ⟨b, hb, -⟩ := ha
      cases hb)
  | some a =>
    have h1 := grd_go h (A := pA g a 1) (g.2.2.1 (pA g a 1)) f 0 hf hp (hr a rfl)
    exact h1.tr (RNC.rf h1.1.1 h1.1.2.1 _) (fun x hx => by
      obtain ⟨b, hb, i, hi, e⟩ := hx
      cases hb
      exact Or.inl ⟨i, hi, e⟩)
theorem grs_go (h : MCX b0 n0 g f0 M t R L) (hr : ∀ k, k < 4 → BDL g M t L (R 18 k)) : ∀ (j k : Nat) (f : zI) (b : Int32), k + j ≤ 4 → FEQ g f0 f → PRE L (mT f M t) → RNC g f0 M t R L f b (grs g R j k (f, b)) (fun x => ∃ i, k ≤ i ∧ i < k + j ∧ inB g (R 18 i) x) := by
  intro j
  induction j with
  | zero =>
    intro k f b _ hf hp
    exact (RNC.rf hf hp b).tr (RNC.rf hf hp b) (fun x hx => by
      obtain ⟨i, a, c, -⟩ := hx
      omega)
  | succ j ih =>
    intro k f b hk hf hp
    have h1 := gro_go h hf hp (hr k (by omega))
    have h3 : RNC g f0 M t R L f b ((gro g R (R 18 k) f).1, if (gro g R (R 18 k) f).2 = 0 then b else 1) (inB g (R 18 k)) := by
      refine ⟨h1.1, fun z => ?_, fun z => ?_⟩
      · have z : (if (gro g R (R 18 k) f).2 = 0 then b else 1) = 0 := z
        by_cases c : (gro g R (R 18 k) f).2 = 0
        · rw [if_pos c] at z
          exact ⟨z, (h1.2.1 c).2⟩
        · rw [if_neg c] at z
          exact absurd z (by decide)
      · have z : ¬ (if (gro g R (R 18 k) f).2 = 0 then b else 1) = 0 := z
        by_cases c : (gro g R (R 18 k) f).2 = 0
        · rw [if_pos c] at z
          exact Or.inl z
        · exact Or.inr ((h1.2.2 c).resolve_left (fun w => w rfl))
    have h2 := ih (k + 1) (gro g R (R 18 k) f).1 (if (gro g R (R 18 k) f).2 = 0 then b else 1) (by omega) h1.1.1 h1.1.2.1
    exact h3.tr h2 (fun x hx => by
      obtain ⟨i, a, c, d⟩ := hx
      by_cases q : i = k
      · subst q; exact Or.inl d
      · exact Or.inr ⟨i, by omega, by omega, d⟩)
def inBs (g : zG) (R : zRf) (x : Nat) : Prop := inB g (R 17 0) x ∨ ∃ k, k < 4 ∧ inB g (R 18 k) x
theorem gall1_go (h : MCX b0 n0 g f0 M t R L) (hr : ∀ k, k < 4 → BDL g M t L (R 18 k)) (hr0 : BDL g M t L (R 17 0)) (hf : FEQ g f0 f) (hp : PRE L (mT f M t)) : RNC g f0 M t R L f 0 (gall1 g R f) (inBs g R) := by
  have h1 := gro_go h hf hp hr0
  have h2 := grs_go h hr 4 0 (gro g R (R 17 0) f).1 (gro g R (R 17 0) f).2 (by omega) h1.1.1 h1.1.2.1
  exact h1.tr h2 (fun x hx => by
    rcases hx with hx | ⟨k, k1, k2⟩
    · exact Or.inl hx
    · exact Or.inr ⟨k, by omega, by omega, k2⟩)
theorem gfix_go (h : MCX b0 n0 g f0 M t R L) (hr : ∀ k, k < 4 → BDL g M t L (R 18 k)) (hr0 : BDL g M t L (R 17 0)) : ∀ (j : Nat) (f : zI), FEQ g f0 f → PRE L (mT f M t) → 64 * L.length < mu L (mT f M t) + j → gfixV g R j f ∧ GC g f0 M t L f (gfix g R j f) ∧ ∀ x, inBs g R x → FXc g R (gfix g R j f) x := by
  intro j
  induction j with
  | zero =>
    intro f _ _ hm
    have := mu_big (mT f M t) L
    omega
  | succ j ih =>
    intro f hf hp hm
    obtain ⟨h1, h2, h3⟩ := gall1_go h hr hr0 hf hp
    by_cases c : (gall1 g R f).2 = 0
    · have e : gfix g R (j + 1) f = (gall1 g R f).1 := if_pos c
      obtain ⟨-, y2, y3⟩ := h2 c
      refine ⟨Or.inl c, by rw [e]; exact h1, ?_⟩
      rw [e, y2]; exact y3
    · have e : gfix g R (j + 1) f = gfix g R j (gall1 g R f).1 := if_neg c
      have hmu := (h3 c).resolve_left (fun w => w rfl)
      obtain ⟨i1, i2, i3⟩ := ih (gall1 g R f).1 h1.1 h1.2.1 (by omega)
      exact ⟨Or.inr i1, by rw [e]; exact h1.tr i2, by rw [e]; exact i3⟩
end MCLS
