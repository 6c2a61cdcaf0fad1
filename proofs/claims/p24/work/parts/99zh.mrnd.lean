/-! may, in the reference: the rounds. -/
def FIX (L : List Nat) (N : zI) : Prop := ∀ m ∈ L, N 14 m = pleaves N (nI m) ∧ N 15 m = plate N (nI m)
def PRE (L : List Nat) (N : zI) : Prop := ∀ m ∈ L, sle (N 14 m) (pleaves N (nI m)) ∧ sle (N 15 m) (plate N (nI m))
def mu (L : List Nat) (N : zI) : Nat := (L.map (fun m => bnum (N 14 m) + bnum (N 15 m))).sum
theorem mu_cons (m : Nat) (L : List Nat) (N : zI) : mu (m :: L) N = (bnum (N 14 m) + bnum (N 15 m)) + mu L N := by
  unfold mu
  rw [List.map_cons, List.sum_cons]
theorem mu_le {N N' : zI} : ∀ L : List Nat, LE2 L N N' → mu L N ≤ mu L N' := by
  intro L
  induction L with
  | nil => intro _; exact Nat.le_refl _
  | cons m L ih =>
    intro h
    have h1 := ih (fun q hq => h q (List.mem_cons_of_mem _ hq))
    obtain ⟨h2, h3⟩ := h m (List.mem_cons_self ..)
    have h2 := h2.nle
    have h3 := h3.nle
    rw [mu_cons, mu_cons]; omega
theorem mu_lt {N N' : zI} : ∀ L : List Nat, LE2 L N N' → (∃ m ∈ L, ¬ (N 14 m = N' 14 m ∧ N 15 m = N' 15 m)) → mu L N < mu L N' := by
  intro L
  induction L with
  | nil => rintro _ ⟨m, hm, -⟩; cases hm
  | cons m L ih =>
    rintro h ⟨q, hq, hn⟩
    obtain ⟨h2, h3⟩ := h m (List.mem_cons_self ..)
    have k2 := h2.nle
    have k3 := h3.nle
    rw [mu_cons, mu_cons]
    rcases List.mem_cons.mp hq with rfl | hq
    · have h1 := mu_le L (fun q hq => h q (List.mem_cons_of_mem _ hq))
      by_cases a : N 14 q = N' 14 q
      · have := h3.nlt (fun b => hn ⟨a, b⟩); omega
      · have := h2.nlt a; omega
    · have h1 := ih (fun q hq => h q (List.mem_cons_of_mem _ hq)) ⟨q, hq, hn⟩
      omega
theorem mu_big (N : zI) : ∀ L : List Nat, mu L N ≤ 64 * L.length := by
  intro L
  induction L with
  | nil => exact Nat.le_refl _
  | cons m L ih =>
    rw [mu_cons, List.length_cons]
    have h1 := bnum_32 (N 14 m)
    have h2 := bnum_32 (N 15 m)
    omega
theorem or_z {x y : Int32} : x ||| y = 0 ↔ x = 0 ∧ y = 0 := by
  constructor
  · intro h
    have h1 : ∀ i, bt x i = false ∧ bt y i = false := fun i => by
      have h2 : bt (x ||| y) i = false := by rw [h]; exact b_0 i
      rw [b_or, Bool.or_eq_false_iff] at h2
      exact h2
    exact ⟨b_ext (fun i _ => (h1 i).1.trans (b_0 i).symm), b_ext (fun i _ => (h1 i).2.trans (b_0 i).symm)⟩
  · rintro ⟨rfl, rfl⟩; rfl
section MRND
variable {M N N' N'' : zI} {L : List Nat}
def GO (M : zI) (L : List Nat) (N N' : zI) : Prop := psame M N' ∧ PRE L N' ∧ LE2 L N N' ∧ ∀ X, psame M X → FIX L X → LE2 L N X → LE2 L N' X
theorem GO.tr (h : GO M L N N') (k : GO M L N' N'') : GO M L N N'' := ⟨k.1, k.2.1, h.2.2.1.tr k.2.2.1, fun X a b c => k.2.2.2 X a b (h.2.2.2 X a b c)⟩
theorem GO.rf (hs : psame M N) (hp : PRE L N) : GO M L N N := ⟨hs, hp, LE2.rf, fun _ _ _ c => c⟩
theorem pgrw_14 {n j : Nat} : pgrw N n 14 j = (if j = n then pleaves N (nI n) else N 14 j) ∧ pgrw N n 15 j = (if j = n then plate N (nI n) else N 15 j) := by
  unfold pgrw
  by_cases q : j = n
  · subst q
    rw [if_pos rfl, if_pos rfl, zup_r (by decide), zup_at, zup_at]
    exact ⟨rfl, rfl⟩
  · rw [if_neg q, if_neg q, zup_r (by decide), zup_ne _ _ _ _ (Or.inr q), zup_ne _ _ _ _ (Or.inr q), zup_r (by decide)]
    exact ⟨rfl, rfl⟩
theorem GO.one (hL : ∀ m ∈ L, RD M L m) (hs : psame M N) (hp : PRE L N) {n : Nat} (hn : n ∈ L) : GO M L N (pgrw N n) := by
  have hs1 : psame M (pgrw N n) := hs.tr (psame.z _ _ _ _)
  have hle : LE2 L N (pgrw N n) := fun m hm => by
    rw [(pgrw_14 (N := N) (n := n) (j := m)).1, (pgrw_14 (N := N) (n := n) (j := m)).2]
    by_cases q : m = n
    · subst q
      rw [if_pos rfl, if_pos rfl]; exact hp m hm
    · rw [if_neg q, if_neg q]; exact ⟨sle.rf, sle.rf⟩
  refine ⟨hs1, fun m hm => ?_, hle, fun X hX hF hNX m hm => ?_⟩
  · have hmo := (hL m hm).mono hs hs1 hle
    rw [(pgrw_14 (N := N) (n := n) (j := m)).1, (pgrw_14 (N := N) (n := n) (j := m)).2]
    by_cases q : m = n
    · subst q
      rw [if_pos rfl, if_pos rfl]; exact hmo
    · rw [if_neg q, if_neg q]
      exact ⟨(hp m hm).1.tr hmo.1, (hp m hm).2.tr hmo.2⟩
  · rw [(pgrw_14 (N := N) (n := n) (j := m)).1, (pgrw_14 (N := N) (n := n) (j := m)).2]
    by_cases q : m = n
    · subst q
      rw [if_pos rfl, if_pos rfl, (hF m hm).1, (hF m hm).2]
      exact (hL m hm).mono hs hX hNX
    · rw [if_neg q, if_neg q]; exact hNX m hm
theorem pgrf_0 {n : Nat} (h : pgrf N n = 0) : pgrw N n = N ∧ N 14 n = pleaves N (nI n) ∧ N 15 n = plate N (nI n) := by
  have hc : pleaves N (nI n) = N 14 n ∧ plate N (nI n) = N 15 n := by
    by_cases c : pleaves N (nI n) = N 14 n ∧ plate N (nI n) = N 15 n
    · exact c
    · rw [show pgrf N n = 1 from if_neg c] at h
      exact absurd h (by decide)
  refine ⟨?_, hc.1.symm, hc.2.symm⟩
  unfold pgrw
  rw [zup_self (hc.1.symm), zup_self hc.2.symm]
theorem pgrf_1 (hL : ∀ m ∈ L, RD M L m) (hs : psame M N) (hp : PRE L N) {n : Nat} (hn : n ∈ L) (h : ¬ pgrf N n = 0) : mu L N < mu L (pgrw N n) := by
  refine mu_lt L (GO.one hL hs hp hn).2.2.1 ⟨n, hn, fun z => h ?_⟩
  rw [(pgrw_14 (N := N) (n := n) (j := n)).1, (pgrw_14 (N := N) (n := n) (j := n)).2, if_pos rfl, if_pos rfl] at z
  exact if_pos ⟨z.1.symm, z.2.symm⟩
def FXm (N : zI) (m : Nat) : Prop := N 14 m = pleaves N (nI m) ∧ N 15 m = plate N (nI m)
/-- what rounds over some nodes do -/
def RND (M : zI) (L : List Nat) (N : zI) (b : Int32) (q : Int32 × zI) (P : Nat → Prop) : Prop := GO M L N q.2 ∧ (q.1 = 0 → b = 0 ∧ q.2 = N ∧ ∀ m, P m → FXm N m) ∧ (¬ q.1 = 0 → ¬ b = 0 ∨ mu L N < mu L q.2)
theorem RND.tr {b : Int32} {q q' : Int32 × zI} {P P' P'' : Nat → Prop} (h : RND M L N b q P) (k : RND M L q.2 q.1 q' P') (hP : ∀ m, P'' m → P m ∨ P' m) : RND M L N b q' P'' := by
  obtain ⟨h1, h2, h3⟩ := h
  obtain ⟨k1, k2, k3⟩ := k
  refine ⟨h1.tr k1, fun z => ?_, fun z => ?_⟩
  · obtain ⟨y1, y2, y3⟩ := k2 z
    obtain ⟨x1, x2, x3⟩ := h2 y1
    refine ⟨x1, y2.trans x2, fun m hm => ?_⟩
    rcases hP m hm with w | w
    · exact x3 m w
    · have := y3 m w
      rw [x2] at this; exact this
  · rcases k3 z with y | y
    · rcases h3 y with x | x
      · exact Or.inl x
      · exact Or.inr (Nat.lt_of_lt_of_le x (mu_le L k1.2.2.1))
    · exact Or.inr (Nat.lt_of_le_of_lt (mu_le L h1.2.2.1) y)
theorem RND.one (hL : ∀ m ∈ L, RD M L m) (hs : psame M N) (hp : PRE L N) {n : Nat} (hn : n ∈ L) (b : Int32) : RND M L N b (b ||| pgrf N n, pgrw N n) (fun m => m = n) := by
  refine ⟨GO.one hL hs hp hn, fun z => ?_, fun z => ?_⟩
  · obtain ⟨z1, z2⟩ := or_z.mp z
    obtain ⟨y1, y2, y3⟩ := pgrf_0 z2
    exact ⟨z1, y1, fun m hm => by subst hm; exact ⟨y2, y3⟩⟩
  · by_cases y : b = 0
    · exact Or.inr (pgrf_1 hL hs hp hn (fun w => z (or_z.mpr ⟨y, w⟩)))
    · exact Or.inl y
theorem RND.rf (hs : psame M N) (hp : PRE L N) (b : Int32) : RND M L N b (b, N) (fun _ => False) := ⟨GO.rf hs hp, fun z => ⟨z, rfl, fun _ h => absurd h id⟩, fun z => Or.inl z⟩
theorem pgrA_go (hL : ∀ m ∈ L, RD M L m) (r0 : Nat) : ∀ (j : Nat) (b : Int32) (N : zI), psame M N → PRE L N → (∀ m, r0 ≤ m → m < r0 + j → m ∈ L) → RND M L N b (pgrA r0 j b N) (fun m => r0 ≤ m ∧ m < r0 + j) := by
  intro j
  induction j with
  | zero =>
    intro b N hs hp _
    exact (RND.rf hs hp b).tr (RND.rf hs hp b) (fun m hm => by omega)
  | succ j ih =>
    intro b N hs hp hI
    have h1 := RND.one hL hs hp (hI (r0 + j) (by omega) (by omega)) b
    have h2 := ih (b ||| pgrf N (r0 + j)) (pgrw N (r0 + j)) h1.1.1 h1.1.2.1 (fun m a c => hI m a (by omega))
    exact h1.tr h2 (fun m hm => by
      by_cases q : m = r0 + j
      · exact Or.inl q
      · exact Or.inr ⟨hm.1, by omega⟩)
theorem pgrow_go (hL : ∀ m ∈ L, RD M L m) {x : Int32} (hs : psame M N) (hp : PRE L N) (hI : ¬ x = -9 → ∀ m, tn x ≤ m → m < tn (M 11 (tn x)) → m ∈ L) : RND M L N 0 (pgrow N x) (fun m => ¬ x = -9 ∧ tn x ≤ m ∧ m < tn (M 11 (tn x))) := by
  unfold pgrow
  by_cases q : x = -9
  · rw [if_pos q]
    exact (RND.rf hs hp 0).tr (RND.rf hs hp 0) (fun m hm => absurd q hm.1)
  · rw [if_neg q, hs 11 (by decide) (by decide)]
    have h := pgrA_go hL (tn x) (tn (M 11 (tn x)) - tn x) 0 N hs hp (fun m a b => hI q m a (by omega))
    exact h.tr (RND.rf h.1.1 h.1.2.1 _) (fun m hm => Or.inl ⟨hm.2.1, by omega⟩)
theorem pgr5_go (hL : ∀ m ∈ L, RD M L m) (hI : ∀ k, k < 5 → ¬ M 2 k = -9 → ∀ m, tn (M 2 k) ≤ m → m < tn (M 11 (tn (M 2 k))) → m ∈ L) : ∀ (j k : Nat) (b : Int32) (N : zI), k + j ≤ 5 → psame M N → PRE L N → RND M L N b (pgr5 j k b N) (fun m => ∃ i, k ≤ i ∧ i < k + j ∧ ¬ M 2 i = -9 ∧ tn (M 2 i) ≤ m ∧ m < tn (M 11 (tn (M 2 i)))) := by
  intro j
  induction j with
  | zero =>
    intro k b N _ hs hp
    exact (RND.rf hs hp b).tr (RND.rf hs hp b) (fun m hm => by
      obtain ⟨i, a, c, -⟩ := hm
      omega)
  | succ j ih =>
    intro k b N hk hs hp
    have e2 : N 2 k = M 2 k := congrFun (hs 2 (by decide) (by decide)) k
    have h1 := pgrow_go hL (x := M 2 k) hs hp (hI k (by omega))
    show RND M L N b (pgr5 j (k + 1) (b ||| (pgrow N (N 2 k)).1) (pgrow N (N 2 k)).2) _
    rw [e2]
    have h2 := ih (k + 1) (b ||| (pgrow N (M 2 k)).1) (pgrow N (M 2 k)).2 (by omega) h1.1.1 h1.1.2.1
    have h3 : RND M L N b (b ||| (pgrow N (M 2 k)).1, (pgrow N (M 2 k)).2) (fun m => ¬ M 2 k = -9 ∧ tn (M 2 k) ≤ m ∧ m < tn (M 11 (tn (M 2 k)))) := by
      refine ⟨h1.1, fun z => ?_, fun z => ?_⟩
      · obtain ⟨z1, z2⟩ := or_z.mp z
        exact ⟨z1, (h1.2.1 z2).2⟩
      · by_cases y : b = 0
        · exact Or.inr ((h1.2.2 (fun w => z (or_z.mpr ⟨y, w⟩))).resolve_left (fun w => w rfl))
        · exact Or.inl y
    exact h3.tr h2 (fun m hm => by
      obtain ⟨i, a, c, d⟩ := hm
      by_cases q : i = k
      · subst q; exact Or.inl d
      · exact Or.inr ⟨i, by omega, by omega, d⟩)
theorem pmay_go (hL : ∀ m ∈ L, RD M L m) (hI : ∀ k, k < 5 → ¬ M 2 k = -9 → ∀ m, tn (M 2 k) ≤ m → m < tn (M 11 (tn (M 2 k))) → m ∈ L) (hI' : ∀ m ∈ L, ∃ k, k < 5 ∧ ¬ M 2 k = -9 ∧ tn (M 2 k) ≤ m ∧ m < tn (M 11 (tn (M 2 k)))) : ∀ (j : Nat) (N : zI), psame M N → PRE L N → 64 * L.length < mu L N + j → pmayT j N ∧ GO M L N (pmayL j N) ∧ FIX L (pmayL j N) := by
  intro j
  induction j with
  | zero =>
    intro N _ _ h
    have := mu_big N L
    omega
  | succ j ih =>
    intro N hs hp h
    obtain ⟨h1, h2, h3⟩ := pgr5_go hL hI 5 0 0 N (by omega) hs hp
    by_cases c : (pgr5 5 0 0 N).1 = 0
    · have e : pmayL (j + 1) N = (pgr5 5 0 0 N).2 := if_pos c
      obtain ⟨-, y2, y3⟩ := h2 c
      refine ⟨fun z => absurd c z, by rw [e]; exact h1, ?_⟩
      rw [e, y2]
      intro m hm
      obtain ⟨k, k1, k2⟩ := hI' m hm
      exact y3 m ⟨k, by omega, by omega, k2⟩
    · have e : pmayL (j + 1) N = pmayL j (pgr5 5 0 0 N).2 := if_neg c
      have hmu := (h3 c).resolve_left (fun w => w rfl)
      obtain ⟨i1, i2, i3⟩ := ih (pgr5 5 0 0 N).2 h1.1 h1.2.1 (by omega)
      exact ⟨fun _ => i1, by rw [e]; exact h1.tr i2, by rw [e]; exact i3⟩
theorem pczA_v : ∀ (j k : Nat) (N : zI) (m : Nat), pczA j k N 14 m = (if k ≤ m ∧ m < k + j then 0 else N 14 m) ∧ pczA j k N 15 m = (if k ≤ m ∧ m < k + j then 0 else N 15 m) := by
  intro j
  induction j with
  | zero =>
    intro k N m
    rw [if_neg (by omega), if_neg (by omega)]
    exact ⟨rfl, rfl⟩
  | succ j ih =>
    intro k N m
    obtain ⟨i1, i2⟩ := ih (k + 1) (zup (zup N 14 k 0) 15 k 0) m
    have e : pczA (j + 1) k N = pczA j (k + 1) (zup (zup N 14 k 0) 15 k 0) := rfl
    rw [e, i1, i2]
    by_cases q : m = k
    · subst q
      rw [if_neg (show ¬ (m + 1 ≤ m ∧ m < m + 1 + j) by omega), if_neg (show ¬ (m + 1 ≤ m ∧ m < m + 1 + j) by omega), if_pos (show m ≤ m ∧ m < m + (j + 1) by omega), if_pos (show m ≤ m ∧ m < m + (j + 1) by omega), zup_r (by decide), zup_at, zup_at]
      exact ⟨rfl, rfl⟩
    · by_cases q2 : k + 1 ≤ m ∧ m < k + 1 + j
      · rw [if_pos q2, if_pos q2, if_pos (by omega), if_pos (by omega)]
        exact ⟨rfl, rfl⟩
      · rw [if_neg q2, if_neg q2, if_neg (by omega), if_neg (by omega), zup_r (by decide), zup_ne _ _ _ _ (Or.inr q), zup_ne _ _ _ _ (Or.inr q), zup_r (by decide)]
        exact ⟨rfl, rfl⟩
theorem pcl5_v {m : Nat} : ∀ (j k : Nat) (N : zI), psame M N → ((N 14 m = 0 ∧ N 15 m = 0) ∨ ∃ i, k ≤ i ∧ i < k + j ∧ ¬ M 2 i = -9 ∧ tn (M 2 i) ≤ m ∧ m < tn (M 11 (tn (M 2 i)))) → pcl5 j k N 14 m = 0 ∧ pcl5 j k N 15 m = 0 := by
  intro j
  induction j with
  | zero =>
    intro k N _ h
    rcases h with h | ⟨i, a, b, -⟩
    · exact h
    · omega
  | succ j ih =>
    intro k N hs h
    have e2 : N 2 k = M 2 k := congrFun (hs 2 (by decide) (by decide)) k
    show pcl5 j (k + 1) (pclear N (N 2 k)) 14 m = 0 ∧ pcl5 j (k + 1) (pclear N (N 2 k)) 15 m = 0
    refine ih (k + 1) _ (hs.tr (pclear_same _ _)) ?_
    rw [e2]
    unfold pclear
    by_cases c9 : M 2 k = -9
    · rw [if_pos c9]
      rcases h with h | ⟨i, a, b, d⟩
      · exact Or.inl h
      · refine Or.inr ⟨i, ?_, by omega, d⟩
        rcases Nat.lt_or_ge k i with z | z
        · exact z
        · exact absurd ((show i = k by omega) ▸ c9) d.1
    · rw [if_neg c9, hs 11 (by decide) (by decide)]
      obtain ⟨v1, v2⟩ := pczA_v (tn (M 11 (tn (M 2 k))) - tn (M 2 k)) (tn (M 2 k)) N m
      by_cases q : tn (M 2 k) ≤ m ∧ m < tn (M 2 k) + (tn (M 11 (tn (M 2 k))) - tn (M 2 k))
      · refine Or.inl ?_
        rw [v1, v2, if_pos q, if_pos q]
        exact ⟨rfl, rfl⟩
      · rcases h with h | ⟨i, a, b, d⟩
        · refine Or.inl ?_
          rw [v1, v2, if_neg q, if_neg q]; exact h
        · refine Or.inr ⟨i, ?_, by omega, d⟩
          rcases Nat.lt_or_ge k i with z | z
          · exact z
          · obtain rfl : i = k := by omega
            exact absurd ⟨d.2.1, by omega⟩ q
end MRND
