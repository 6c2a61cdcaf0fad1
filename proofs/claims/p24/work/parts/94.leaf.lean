/-! A text is read, in both: leaves; expressions that are opened. -/
section LEAF
variable {b0 n0 fs : Nat} {S0 : bSt} {M0 : zI} {len : Nat} {tx : Nat → Nat} {g : zG} {f : zI} {R : zRf} {t : zTs} {m k : Nat}
/-- the trees of a new node, where it stands -/
abbrev t2N (g : zG) (R : zRf) (C : zI) (t : zTs) (L : List Ent) : zTs := tN t g.1 (fun y => ml (C 7 L.length) y) (¬ R 8 L.length = none)
theorem pmake_1 {M : zI} {κ a : Int32} {N : Nat} (h : M 0 1 = nI N) (hN : N < 2 ^ 31) : (∀ j, j < 5 * N → pmake M κ a 1 j = M 1 j) ∧ pmake M κ a 1 (5 * N) = κ ∧ pmake M κ a 1 (5 * N + 1) = a ∧ pmake M κ a 1 (5 * N + 2) = -9 ∧ pmake M κ a 1 (5 * N + 3) = -9 ∧ pmake M κ a 1 (5 * N + 4) = -9 ∧ (∀ r, r ≠ 0 → r ≠ 1 → pmake M κ a r = M r) ∧ pmake M κ a 0 1 = nI (N + 1) ∧ pmake M κ a 0 16 = M 0 16 + (if κ = 16 then 0 else 1) := by
  have e : pmake M κ a = zup (zup (zup (zup (zup (zup (zup M 0 1 (M 0 1 + 1)) 1 (5 * N) κ) 1 (5 * N + 1) a) 1 (5 * N + 2) (-9)) 1 (5 * N + 3) (-9)) 1 (5 * N + 4) (-9)) 0 16 (zup (zup (zup (zup (zup (zup M 0 1 (M 0 1 + 1)) 1 (5 * N) κ) 1 (5 * N + 1) a) 1 (5 * N + 2) (-9)) 1 (5 * N + 3) (-9)) 1 (5 * N + 4) (-9) 0 16 + (if κ = 16 then 0 else 1)) := by
    unfold pmake pmakeE pmake1
    rw [h, tn_nI hN]
  rw [e]
  refine ⟨fun j hj => ?_, ?_, ?_, ?_, ?_, ?_, fun r h0 h1 => ?_, ?_, ?_⟩
  · rw [zup_r (by decide), zup_ne _ _ _ _ (by omega), zup_ne _ _ _ _ (by omega), zup_ne _ _ _ _ (by omega), zup_ne _ _ _ _ (by omega), zup_ne _ _ _ _ (by omega), zup_r (by decide)]
  · rw [zup_r (by decide), zup_ne _ _ _ _ (by omega), zup_ne _ _ _ _ (by omega), zup_ne _ _ _ _ (by omega), zup_ne _ _ _ _ (by omega), zup_at]
  · rw [zup_r (by decide), zup_ne _ _ _ _ (by omega), zup_ne _ _ _ _ (by omega), zup_ne _ _ _ _ (by omega), zup_at]
  · rw [zup_r (by decide), zup_ne _ _ _ _ (by omega), zup_ne _ _ _ _ (by omega), zup_at]
  · rw [zup_r (by decide), zup_ne _ _ _ _ (by omega), zup_at]
  · rw [zup_r (by decide), zup_at]
  · rw [zup_r h0, zup_r h1, zup_r h1, zup_r h1, zup_r h1, zup_r h1, zup_r h0]
  · rw [zup_ne _ _ _ _ (by omega), zup_r (by decide), zup_r (by decide), zup_r (by decide), zup_r (by decide), zup_r (by decide), zup_at, h]
    exact ixA (a := N) (b := 1) rfl (ixC 1)
  · rw [zup_at, zup_r (show (0 : Nat) ≠ 1 by decide), zup_r (show (0 : Nat) ≠ 1 by decide), zup_r (show (0 : Nat) ≠ 1 by decide), zup_r (show (0 : Nat) ≠ 1 by decide), zup_r (show (0 : Nat) ≠ 1 by decide), zup_ne _ _ _ _ (by omega)]
/-- what new nodes need of lists and addresses -/
theorem NDS.new {M M' : zI} {L L' : List Ent} {G : zG} {F : zI} {D : Nat → Prop} {r : Prop} {κ : Nat} (h : NDS b0 n0 fs g f R M t L m) (hT : ∀ j, j < 5 * t.1 → M' 1 j = M 1 j) (hk : M' 1 (5 * t.1) = nI κ) (hκ : κ ≤ 15) (hft : fs ≤ t.1) (h0 : t.1 = fs ∨ 1 ≤ m) (h0m : t.1 = fs → m = 0)
    (ho : ∀ n, fs ≤ n → n < t.1 → (∃ e ∈ L', e.1 = n) ∨ M' 1 (5 * n) = nI 16 ∨ ∃ κ, κ ≤ 15 ∧ M' 1 (5 * n) = nI κ ∧ EN b0 n0 G F (M' 1) (t.1 + 1, (tN t g.1 D r).2) κ n ∧ (κ = 14 → ∃ h, fs ≤ h ∧ h < n ∧ M' 1 (5 * n + 4) = nI h))
    (hn : (∃ e ∈ L', e.1 = t.1) ∨ (EN b0 n0 G F (M' 1) (t.1 + 1, (tN t g.1 D r).2) κ t.1 ∧ (κ = 14 → ∃ h, fs ≤ h ∧ h < t.1 ∧ M' 1 (5 * t.1 + 4) = nI h))) : NDS b0 n0 fs G F (zup R 3 m (some g.1)) M' (tN t g.1 D r) L' (m + 1) := by
  obtain ⟨-, h2, h3, h4⟩ := h
  have n16 : ¬ M' 1 (5 * t.1) = nI 16 := fun z => absurd ((nI_eq (by omega) (by decide)).mp (hk.symm.trans z)) (by omega)
  refine ⟨fun n a b => ?_, fun i hi => ?_, fun n a b c => ?_, fun _ => ⟨by omega, ?_, ?_⟩⟩
  · have b : n < t.1 + 1 := b
    by_cases q : n = t.1
    · subst q
      rcases hn with hn | hn
      · exact Or.inl hn
      · exact Or.inr (Or.inr ⟨κ, hκ, hk, hn.1, hn.2⟩)
    · exact ho n a (by omega)
  · by_cases q : i = m
    · subst q
      exact ⟨t.1, hft, Nat.lt_succ_self _, n16, (zup_at _ _ _ _).trans (congrArg some tN_n.1.symm)⟩
    · obtain ⟨n, q1, q2, q3, q4⟩ := h2 i (by omega)
      exact ⟨n, q1, Nat.lt_succ_of_lt q2, by rw [hT _ (by omega)]; exact q3, (zup_ne _ _ _ _ (Or.inr q)).trans (q4.trans (congrArg some (tN_o q2).1.symm))⟩
  · have b : n < t.1 + 1 := b
    by_cases q : n = t.1
    · subst q
      exact ⟨m, Nat.lt_succ_self _, (zup_at _ _ _ _).trans (congrArg some tN_n.1.symm)⟩
    · have b2 : n < t.1 := by omega
      obtain ⟨i, i1, i2⟩ := h3 n a b2 (by rw [← hT _ (by omega)]; exact c)
      exact ⟨i, by omega, (zup_ne _ _ _ _ (by omega)).trans (i2.trans (congrArg some (tN_o b2).1.symm))⟩
  · by_cases q : t.1 = fs
    · rw [h0m q, ← q]
      exact (zup_at _ _ _ _).trans (congrArg some tN_n.1.symm)
    · obtain ⟨q1, q2, -⟩ := h4 (by omega)
      exact (zup_ne _ _ _ _ (by omega)).trans (q2.trans (congrArg some (tN_o (by omega)).1.symm))
  · by_cases q : t.1 = fs
    · rw [← q]; exact n16
    · rw [hT _ (by omega)]; exact (h4 (by omega)).2.2
theorem FRS.new {s0 : Nat} {M M' : zI} {G : zG} {D : Nat → Prop} {r : Prop} {κ : Nat} (h : FRS s0 fs g M t) (hs : s0 ≤ g.1) (hT : ∀ j, j < 5 * t.1 → M' 1 j = M 1 j) (hk : M' 1 (5 * t.1) = nI κ) (hκ : κ ≤ 15) (hG : zLe g G) (h1 : g.1 < G.1 ∧ G.2.1 g.1 = 1) (h15 : κ = 15 → g.1 + 2 < G.1 ∧ G.2.1 (g.1 + 1) = 14 ∧ G.2.1 (g.1 + 2) = 13) : FRS s0 fs G M' (tN t g.1 D r) := by
  refine ⟨fun n a b c => ?_, fun n n' a b c d e => ?_⟩
  · have b : n < t.1 + 1 := b
    by_cases q : n = t.1
    · subst q
      rw [tN_n.1]
      exact ⟨hs, h1.1, h1.2, fun z => h15 ((nI_eq (by omega) (by decide)).mp (hk.symm.trans z))⟩
    · have b2 : n < t.1 := by omega
      rw [hT _ (by omega)] at c ⊢
      rw [(tN_o b2).1]
      obtain ⟨q1, q2, q3, q4⟩ := h.1 n a b2 c
      have hg1 := hG.1
      refine ⟨q1, by omega, (hG.2 _ q2).1.trans q3, fun z => ?_⟩
      obtain ⟨w1, w2, w3⟩ := q4 z
      exact ⟨by omega, (hG.2 _ (by omega)).1.trans w2, (hG.2 _ w1).1.trans w3⟩
  · have c : n' < t.1 + 1 := c
    rw [hT _ (by omega)] at d
    have b2 : n < t.1 := by omega
    rw [(tN_o b2).1]
    by_cases q : n' = t.1
    · rw [q, tN_n.1]
      exact (h.1 n a b2 d).2.1
    · rw [hT _ (by omega)] at e
      rw [(tN_o (by omega)).1]
      exact h.2 n n' a b (by omega) d e
set_option maxHeartbeats 1000000 in
/-- a leaf was read -/
theorem PS.leaf {C C1 M : zI} {L : List Ent} {κ k2 : Nat} {x a : Int32} (h : PS b0 n0 fs S0 M0 len tx g f R C M t L m k none) (hL : NX L ∨ L = []) (hbt : bot L t.1 = fs) (hn0 : b0 ≤ S0.1.1 ∧ n0 ≤ S0.1.1) (hκ : κ ≤ 1) (hx : x = sgn κ) (ha : κ = 1 → ∃ v, v < 26 ∧ a = nI v ∧ ml (C 7 L.length) v) (hk2 : k < k2 ∧ k2 ≤ len)
    (hC1 : (∀ r, r ≠ 2 → C1 r = C r) ∧ C1 2 1 = nI (m + 1) ∧ C1 2 9 = C 2 9) :
    ATT b0 n0 fs S0 M0 len tx (gA t (dxG (znG g 1 0) g.1 x) g.1 L) (zup (dxF (znG g 1 0) (znI g f) g.1 x) g.1 1 a) (zup R 3 m (some g.1)) C1 (zup (pmake (zup M 0 14 (nI k2)) (nI κ) a) 0 17 (nI t.1)) (t2N g R C t L) L (m + 1) k2 t.1 := by
  have h' := h
  obtain ⟨hS, ⟨c0, ⟨c1, c2, c3, c4, c5⟩, ⟨c6, c7, c8, c9, c10, c11⟩, c12, c13⟩, hN, hFr, hK, hMB⟩ := h
  have hl := c0.1
  have hb : t.1 ≤ 65536 := by omega
  have hs0 : S0.1.1 ≤ g.1 := hK.1.1.1
  have hx123 : ¬ x = 123 := by
    rw [hx]
    exact (show ∀ κ, κ ≤ 1 → ¬ sgn κ = 123 by decide) κ hκ
  obtain ⟨z1, z2, z3, z4, z5, z6, z7⟩ := dx_o (g := g) (f := f) (x := x)
  obtain ⟨M2, eM2⟩ : ∃ M2, M2 = zup (pmake (zup M 0 14 (nI k2)) (nI κ) a) 0 17 (nI t.1) := ⟨_, rfl⟩
  rw [← eM2]
  obtain ⟨p1, p2, p3, p4, p5, p6, p7, p8, p9⟩ := pmake_1 (M := zup M 0 14 (nI k2)) (κ := nI κ) (a := a) (N := t.1) ((zup_ne _ _ _ _ (by omega)).trans c2) (by omega)
  have q1 : ∀ r, r ≠ 0 → M2 r = pmake (zup M 0 14 (nI k2)) (nI κ) a r := fun r hr => by rw [eM2]; exact zup_r hr
  have hT : ∀ j, j < 5 * t.1 → M2 1 j = M 1 j := fun j hj => by rw [q1 1 (by decide), p1 j hj, zup_r (by decide)]
  have hTk : M2 1 (5 * t.1) = nI κ := by rw [q1 1 (by decide)]; exact p2
  have hTa : M2 1 (5 * t.1 + 1) = a := by rw [q1 1 (by decide)]; exact p3
  have hr : ∀ r, r ≠ 0 → r ≠ 1 → M2 r = M r := fun r h0 h1 => by rw [q1 r h0, p7 r h0 h1, zup_r h0]
  have h0j : ∀ j, j ≠ 1 → j ≠ 14 → j ≠ 16 → j ≠ 17 → M2 0 j = M 0 j := fun j a b c d => by rw [eM2, zup_ne _ _ _ _ (Or.inr d), pmake_0 a c, zup_ne _ _ _ _ (Or.inr b)]
  have hAR : AR R (zup R 3 m (some g.1)) C C1 M M2 L.length (opn L) := ⟨fun j _ => ⟨congrFun (zup_r (by decide)) j, congrFun (zup_r (by decide)) j, congrFun (hC1.1 5 (by decide)) j, congrFun (hC1.1 6 (by decide)) j, congrFun (hC1.1 7 (by decide)) j⟩, fun j _ => ⟨congrFun (hr 7 (by decide) (by decide)) j, congrFun (hr 8 (by decide) (by decide)) j, congrFun (hr 9 (by decide) (by decide)) j, congrFun (hr 10 (by decide) (by decide)) j⟩⟩
  obtain ⟨-, hS2, hN2, -, hg2, hK2⟩ := h'.new (x := x) (D := fun y => ml (C 7 L.length) y) (r := ¬ R 8 L.length = none) hL hT (by omega) hAR ⟨fun r a _ _ _ => hC1.1 r a, fun r a _ _ => zup_r a, congrFun (zup_r (by decide)) 0, fun j => by rw [hC1.1 6 (by decide)]; exact hK.2.2.2.2.2.2 j⟩
  obtain ⟨G, eG⟩ : ∃ G, G = gA t (dxG (znG g 1 0) g.1 x) g.1 L := ⟨_, rfl⟩
  rw [← eG] at hS2 hN2 hg2 hK2 ⊢
  have hGle : zLe g G := by rw [eG]; exact z1.1.tr (gA_le L)
  have hGdx : zLe (dxG (znG g 1 0) g.1 x) G := by rw [eG]; exact gA_le L
  have hzin : zIn b0 G g.1 1 := zIn.le (g := dxG (znG g 1 0) g.1 x) ⟨by omega, z4, z3⟩ hGdx
  have hAm : AG b0 fs t.1 (fun _ => True) G (dxF (znG g 1 0) (znI g f) g.1 x) (M2 1) (t2N g R C t L) G (zup (dxF (znG g 1 0) (znI g f) g.1 x) g.1 1 a) (M2 1) (t2N g R C t L) := by
    refine ⟨zLe.rf, fun n n0' n1 _ => ⟨fun h => ⟨rfl, ?_⟩, fun h => ⟨rfl, ?_⟩⟩, fun _ _ _ => rfl, fun _ _ _ _ _ _ => rfl, fun _ _ _ _ _ _ _ => rfl, fun _ _ _ => ⟨rfl, rfl, rfl⟩, hb⟩
    · rw [(tN_o n1).1]
      rw [hT _ (by omega)] at h
      exact zup_r (by have := (hFr.1 n n0' n1 h).2.1; omega)
    · rw [(tN_o n1).1]
      rw [hT _ (by omega)] at h
      exact zup_r (by have := ((hFr.1 n n0' n1 (by rw [h]; decide)).2.2.2 h).1; omega)
  have hm0 : t.1 = fs → m = 0 := by
    intro z
    by_cases q : m = 0
    · exact q
    · obtain ⟨n, a1, a2, -⟩ := hN.2.1 0 (by omega)
      omega
  have hleaf : EN b0 n0 G (zup (dxF (znG g 1 0) (znI g f) g.1 x) g.1 1 a) (M2 1) (t.1 + 1, (t2N g R C t L).2) κ t.1 := by
    have e1 : (t2N g R C t L).2.1 t.1 = g.1 := tN_n.1
    have hari : ari κ = 0 := (show ∀ κ, κ ≤ 1 → ari κ = 0 by decide) κ hκ
    have gn : ∀ k, G.2.2.2 g.1 k = none := fun k => (congrFun (hg2 g.1 (Nat.le_refl _)) k).trans ((dx_n hx123).2 k)
    refine ⟨⟨?_, ?_, ?_, fun _ => ?_⟩, ⟨fun q => ?_, fun q => by omega, fun q => by omega⟩, fun i hi => ⟨fun z => by omega, fun _ => ?_⟩, fun q => by omega, fun _ => ?_, fun q => by omega⟩
    · show n0 ≤ (t2N g R C t L).2.1 t.1
      rw [e1]; omega
    · show zIn b0 G ((t2N g R C t L).2.1 t.1) 1
      rw [e1]; exact hzin
    · show zup _ g.1 1 a ((t2N g R C t L).2.1 t.1) 0 = sgn κ
      rw [e1, zup_ne _ _ _ _ (by omega), z5, hx]
    · show zup _ g.1 1 a ((t2N g R C t L).2.1 t.1) 1 = _
      rw [e1, zup_at, hTa]
    · obtain ⟨v, v1, v2, v3⟩ := ha (by omega)
      refine ⟨v, v1, hTa.trans v2, fun _ => ?_⟩
      show (t2N g R C t L).2.2.1 t.1 v
      rw [tN_n.2.1]; exact v3
    · show G.2.2.2 ((t2N g R C t L).2.1 t.1) (2 + i) = none
      rw [e1]; exact gn _
    · show G.2.2.2 ((t2N g R C t L).2.1 t.1) 5 = none ∧ G.2.2.2 ((t2N g R C t L).2.1 t.1) 6 = none
      rw [e1]; exact ⟨gn _, gn _⟩
  refine ⟨⟨?_, ⟨c0.at (hC1.1 1 (by decide)) (h0j 8 (by decide) (by decide) (by decide) (by decide)) (hr 6 (by decide) (by decide)), ⟨hC1.2.1, ?_, ?_, ?_, ?_⟩, ⟨hk2.2, by show fs ≤ t.1 + 1; omega, by show t.1 + 1 ≤ fs + k2; omega, by omega, by omega, c11⟩, hC1.2.2.trans c12, (h0j 13 (by decide) (by decide) (by decide) (by decide)).trans c13⟩, ?_, ?_, ?_, ?_⟩, ⟨c7, Nat.lt_succ_self _, ?_⟩, STK.lt L t.1 _ hS, hbt, fun y hy => ?_, fun hy => ?_⟩
  · rw [show (t2N g R C t L).2.1 t.1 = g.1 from tN_n.1]
    exact STK.fr (P := fun _ => True) L t.1 (t.1 + 1) _ hS2 hAm (fun _ _ => trivial) (Nat.le_succ _) ⟨fun _ _ => ⟨rfl, rfl, rfl, rfl, rfl⟩, fun _ _ => ⟨rfl, rfl, rfl, rfl⟩⟩
  · rw [eM2, zup_ne _ _ _ _ (by omega)]; exact p8
  · rw [eM2, zup_ne _ _ _ _ (by omega), p9, zup_ne _ _ _ _ (by omega), c3, if_neg (show ¬ nI κ = 16 from fun z => absurd ((nI_eq (b := 16) (by omega) (by decide)).mp z) (by omega))]
    exact ixA (a := m) (b := 1) rfl (ixC 1)
  · rw [eM2, zup_ne _ _ _ _ (by omega), pmake_0 (by decide) (by decide), zup_at]
  · rw [h0j 15 (by decide) (by decide) (by decide) (by decide)]; exact c5
  · refine hN.new (κ := κ) hT hTk (by omega) c7 ?_ hm0 (fun n a b => ?_) (Or.inr ⟨hleaf, fun z => by omega⟩)
    · by_cases q : t.1 = fs
      · exact Or.inl q
      · exact Or.inr (hN.2.2.2 (by omega)).1
    · rcases hN2 n a b with q | q | ⟨κ', q1, q2, q3, q4⟩
      · exact Or.inl q
      · exact Or.inr (Or.inl q)
      · have q3' : EN b0 n0 G (dxF (znG g 1 0) (znI g f) g.1 x) (M2 1) (t.1, (t2N g R C t L).2) κ' n ∨ True := Or.inr trivial
        refine Or.inr (Or.inr ⟨κ', q1, q2, ?_, q4⟩)
        have hAm' : AG b0 fs (t.1 + 1) (fun n => n < t.1) G (dxF (znG g 1 0) (znI g f) g.1 x) (M2 1) (t2N g R C t L) G (zup (dxF (znG g 1 0) (znI g f) g.1 x) g.1 1 (M2 1 (5 * t.1 + 1))) (M2 1) (t2N g R C t L) := by
          rw [hTa]
          exact ⟨zLe.rf, fun n n0' _ n1 => hAm.2.1 n n0' n1 trivial, fun _ _ _ => rfl, fun _ _ _ _ _ _ => rfl, fun _ _ _ _ _ _ _ => rfl, fun _ _ _ => ⟨rfl, rfl, rfl⟩, by omega⟩
        rw [hTa] at hAm'
        exact EN.fr q3 q2 q1 hAm' a (Nat.lt_succ_of_lt b) b (Nat.le_refl _) q4
  · exact hFr.new hs0 hT hTk (by omega) hGle ⟨hzin.2.1, hzin.2.2⟩ (fun z => by omega)
  · obtain ⟨⟨k1, k2⟩, k3⟩ := hK2
    exact ⟨⟨k1, fun y hy => ⟨(k2 y hy).1, (zup_r (by omega)).trans (k2 y hy).2⟩⟩, k3⟩
  · rw [eM2]
    refine MB.z ?_ (by omega)
    refine ⟨fun r a0 a1 a7 a8 a9 a10 => ?_, fun j b1 b2 b3 b4 b5 b6 => ?_, fun j hj => ?_⟩
    · rw [p7 r a0 a1, zup_r a0]; exact hMB.1 r a0 a1 a7 a8 a9 a10
    · rw [pmake_0 b1 b5, zup_ne _ _ _ _ (Or.inr b3)]; exact hMB.2.1 j b1 b2 b3 b4 b5 b6
    · rw [p1 j (by omega), zup_r (by decide)]; exact hMB.2.2 j hj
  · rw [hTk]; exact fun z => absurd ((nI_eq (b := 16) (by omega) (by decide)).mp z) (by omega)
  · rw [show (t2N g R C t L).2.2.1 t.1 = (fun y => ml (C 7 L.length) y) from tN_n.2.1] at hy
    rw [hC1.1 7 (by decide)]; exact hy
  · rw [show (t2N g R C t L).2.2.2 t.1 = (¬ R 8 L.length = none) from tN_n.2.2] at hy
    rw [zup_r (by decide)]; exact hy
theorem sub1 {h : Nat} (hh : h < 2 ^ 31 - 1) : nI (h + 1) - 1 = nI h := ixS (a := h + 1) (b := 1) rfl (ixC 1) (by omega)
set_option maxHeartbeats 2000000 in
/-- an expression with parts was begun -/
theorem PS.openE {C C1 M : zI} {R1 : zRf} {L : List Ent} {κ k2 : Nat} {x a mr : Int32} {F : zI} {G1 : zG} (h : PS b0 n0 fs S0 M0 len tx g f R C M t L m k none) (hL : NX L ∨ L = []) (hn0 : b0 ≤ S0.1.1 ∧ n0 ≤ S0.1.1) (hκ : 2 ≤ κ ∧ κ ≤ 15) (hx : x = sgn κ)
    (ha : (κ = 8 → ∃ v, v < 26 ∧ a = nI v) ∧ (κ = 10 ∨ κ = 11 → ∃ v, v < 6 ∧ a = nI v) ∧ (κ = 13 → ∃ v, v < 4 ∧ a = nI v)) (hk2 : k < k2 ∧ k2 ≤ len) (hmr : OC (M 1) t fs t.1 mr (R 8 L.length)) (h14 : κ = 14 → ¬ R 8 L.length = none)
    (hF : (∀ y, y ≠ g.1 → F y = dxF (znG g 1 0) (znI g f) g.1 x y) ∧ F g.1 0 = x ∧ (κ = 8 ∨ κ = 10 ∨ κ = 11 ∨ κ = 13 → F g.1 1 = a))
    (hG1 : G1 = if κ = 14 then zpR (gA t (dxG (znG g 1 0) g.1 x) g.1 L) g.1 7 (R 8 L.length) else gA t (dxG (znG g 1 0) g.1 x) g.1 L)
    (hR1 : R1 = zup (zup (zup R 3 m (some g.1)) 4 (L.length + 1) (some g.1)) 8 (L.length + 1) (R 8 L.length))
    (hC1 : (∀ r, r ≠ 2 → r ≠ 5 → r ≠ 7 → C1 r = C r) ∧ C1 2 1 = nI (m + 1) ∧ C1 2 9 = nI (L.length + 1) ∧ (C1 5 (L.length + 1) = 0 ∧ ∀ j, j ≠ L.length + 1 → C1 5 j = C 5 j) ∧ (C1 7 (L.length + 1) = C 7 L.length ∧ ∀ j, j ≠ L.length + 1 → C1 7 j = C 7 j)) :
    PS b0 n0 fs S0 M0 len tx G1 F R1 C1 (pbwF (zup M 0 14 (nI k2)) (nI κ) a (C 7 L.length) mr) (t2N g R C t L) ((t.1, κ, 0, 0, 0) :: L) (m + 1) k2 none := by
  have h' := h
  obtain ⟨hS, ⟨c0, ⟨c1, c2, c3, c4, c5⟩, ⟨c6, c7, c8, c9, c10, c11⟩, c12, c13⟩, hN, hFr, hK, hMB⟩ := h
  have hl := c0.1
  have hb : t.1 ≤ 65536 := by omega
  have hs0 : S0.1.1 ≤ g.1 := hK.1.1.1
  obtain ⟨z1, z2, z3, z4, z5, z6, z7⟩ := dx_o (g := g) (f := f) (x := x)
  have hκ16 : ¬ nI κ = 16 := fun z => absurd ((nI_eq (b := 16) (by omega) (by decide)).mp z) (by omega)
  have hκ14 : nI κ = 14 ↔ κ = 14 := nI_eq (b := 14) (by omega) (by decide)
  have hsg : x = 123 ↔ κ = 15 := by rw [hx]; exact (sgn_p κ (by omega) hκ.1).1
  obtain ⟨M2, eM2⟩ : ∃ M2, M2 = pbwF (zup M 0 14 (nI k2)) (nI κ) a (C 7 L.length) mr := ⟨_, rfl⟩
  rw [← eM2]
  obtain ⟨p1, p2, p3, p4, p5, p6, p7, p8, p9⟩ := pmake_1 (M := zup M 0 14 (nI k2)) (κ := nI κ) (a := a) (N := t.1) ((zup_ne _ _ _ _ (by omega)).trans c2) (by omega)
  have n1 : zup M 0 14 (nI k2) 0 1 = nI t.1 := (zup_ne _ _ _ _ (by omega)).trans c2
  have e13 : (zup (zup (pmake (zup M 0 14 (nI k2)) (nI κ) a) 0 17 (nI t.1)) 1 (5 * t.1 + 4) (if nI κ = 14 then mr - 1 else -9)) 0 13 = nI (opn L) := by
    rw [zup_r (by decide), zup_ne _ _ _ _ (by omega), pmake_0 (by decide) (by decide), zup_ne _ _ _ _ (by omega)]; exact c13
  have eX : M2 = zup (zup (zup (zup (zup (zup (zup (pmake (zup M 0 14 (nI k2)) (nI κ) a) 0 17 (nI t.1)) 1 (5 * t.1 + 4) (if nI κ = 14 then mr - 1 else -9)) 7 (opn L) (nI t.1)) 8 (opn L) 0) 9 (opn L) (C 7 L.length)) 10 (opn L) mr) 0 13 (nI (opn L + 1)) := by
    rw [eM2]
    unfold pbwF penter pbw4
    dsimp only
    rw [n1, zup_at, tn_nI (by omega), e13, tn_nI (by omega), zup_r (show (0 : Nat) ≠ 10 by decide), zup_r (show (0 : Nat) ≠ 9 by decide), zup_r (show (0 : Nat) ≠ 8 by decide), zup_r (show (0 : Nat) ≠ 7 by decide), e13, show nI (opn L) + 1 = nI (opn L + 1) from ixA (a := opn L) (b := 1) rfl (ixC 1)]
  have hT1 : ∀ j, j ≠ 5 * t.1 + 4 → M2 1 j = pmake (zup M 0 14 (nI k2)) (nI κ) a 1 j := fun j hj => by
    rw [eX, zup_r (by decide), zup_r (by decide), zup_r (by decide), zup_r (by decide), zup_r (by decide), zup_ne _ _ _ _ (Or.inr hj), zup_r (by decide)]
  have hT : ∀ j, j < 5 * t.1 → M2 1 j = M 1 j := fun j hj => by rw [hT1 j (by omega), p1 j hj, zup_r (by decide)]
  have hTk : M2 1 (5 * t.1) = nI κ := by rw [hT1 _ (by omega)]; exact p2
  have hTa : M2 1 (5 * t.1 + 1) = a := by rw [hT1 _ (by omega)]; exact p3
  have hT3 : M2 1 (5 * t.1 + 3) = -9 := by rw [hT1 _ (by omega)]; exact p5
  have hT4 : κ = 14 → M2 1 (5 * t.1 + 4) = mr - 1 := fun q => by
    rw [eX, zup_r (by decide), zup_r (by decide), zup_r (by decide), zup_r (by decide), zup_r (by decide), zup_at, if_pos (hκ14.mpr q)]
  have hr : ∀ r, r ≠ 0 → r ≠ 1 → r ≠ 7 → r ≠ 8 → r ≠ 9 → r ≠ 10 → M2 r = M r := fun r h0 h1 h7 h8 h9 h10 => by
    rw [eX, zup_r h0, zup_r h10, zup_r h9, zup_r h8, zup_r h7, zup_r h1, zup_r h0, p7 r h0 h1, zup_r h0]
  have hr0 : ∀ r, r ≠ 0 → r ≠ 1 → pmake (zup M 0 14 (nI k2)) (nI κ) a r = M r := fun r h0 h1 => by rw [p7 r h0 h1, zup_r h0]
  have h0j : ∀ j, j ≠ 1 → j ≠ 13 → j ≠ 14 → j ≠ 16 → j ≠ 17 → M2 0 j = M 0 j := fun j a e b c d => by
    rw [eX, zup_ne _ _ _ _ (Or.inr e), zup_r (by decide), zup_r (by decide), zup_r (by decide), zup_r (by decide), zup_r (by decide), zup_ne _ _ _ _ (Or.inr d), pmake_0 a c, zup_ne _ _ _ _ (Or.inr b)]
  have r7 : (∀ j, j ≠ opn L → M2 7 j = M 7 j) ∧ M2 7 (opn L) = nI t.1 := by
    constructor
    · intro j hj
      rw [eX, zup_r (by decide), zup_r (by decide), zup_r (by decide), zup_r (by decide), zup_ne _ _ _ _ (Or.inr hj), zup_r (by decide), zup_r (by decide), hr0 7 (by decide) (by decide)]
    · rw [eX, zup_r (by decide), zup_r (by decide), zup_r (by decide), zup_r (by decide), zup_at]
  have r8 : (∀ j, j ≠ opn L → M2 8 j = M 8 j) ∧ M2 8 (opn L) = 0 := by
    constructor
    · intro j hj
      rw [eX, zup_r (by decide), zup_r (by decide), zup_r (by decide), zup_ne _ _ _ _ (Or.inr hj), zup_r (by decide), zup_r (by decide), zup_r (by decide), hr0 8 (by decide) (by decide)]
    · rw [eX, zup_r (by decide), zup_r (by decide), zup_r (by decide), zup_at]
  have r9 : (∀ j, j ≠ opn L → M2 9 j = M 9 j) ∧ M2 9 (opn L) = C 7 L.length := by
    constructor
    · intro j hj
      rw [eX, zup_r (by decide), zup_r (by decide), zup_ne _ _ _ _ (Or.inr hj), zup_r (by decide), zup_r (by decide), zup_r (by decide), zup_r (by decide), hr0 9 (by decide) (by decide)]
    · rw [eX, zup_r (by decide), zup_r (by decide), zup_at]
  have r10 : (∀ j, j ≠ opn L → M2 10 j = M 10 j) ∧ M2 10 (opn L) = mr := by
    constructor
    · intro j hj
      rw [eX, zup_r (by decide), zup_ne _ _ _ _ (Or.inr hj), zup_r (by decide), zup_r (by decide), zup_r (by decide), zup_r (by decide), zup_r (by decide), hr0 10 (by decide) (by decide)]
    · rw [eX, zup_r (by decide), zup_at]
  have hR4 : (∀ j, j ≠ L.length + 1 → R1 4 j = R 4 j) ∧ R1 4 (L.length + 1) = some g.1 := by
    rw [hR1]
    exact ⟨fun j hj => by rw [zup_r (by decide), zup_ne _ _ _ _ (Or.inr hj), zup_r (by decide)], by rw [zup_r (by decide), zup_at]⟩
  have hR8 : (∀ j, j ≠ L.length + 1 → R1 8 j = R 8 j) ∧ R1 8 (L.length + 1) = R 8 L.length := by
    rw [hR1]
    exact ⟨fun j hj => by rw [zup_ne _ _ _ _ (Or.inr hj), zup_r (by decide), zup_r (by decide)], zup_at _ _ _ _⟩
  have hR3 : R1 3 = zup R 3 m (some g.1) 3 := by rw [hR1, zup_r (by decide), zup_r (by decide)]
  have hAR : AR R R1 C C1 M M2 L.length (opn L) := ⟨fun j hj => ⟨hR4.1 j (by omega), hR8.1 j (by omega), hC1.2.2.2.1.2 j (by omega), congrFun (hC1.1 6 (by decide) (by decide) (by decide)) j, hC1.2.2.2.2.2 j (by omega)⟩, fun j hj => ⟨r7.1 j (by omega), r8.1 j (by omega), r9.1 j (by omega), r10.1 j (by omega)⟩⟩
  obtain ⟨-, hS2, hN2, -, hg2, hK2⟩ := h'.new (x := x) (D := fun y => ml (C 7 L.length) y) (r := ¬ R 8 L.length = none) hL hT (by omega) hAR ⟨fun r a b _ d => hC1.1 r a b d, fun r a b c => by rw [hR1, zup_r c, zup_r b, zup_r a], hR8.1 0 (by omega), fun j => by rw [hC1.1 6 (by decide) (by decide) (by decide)]; exact hK.2.2.2.2.2.2 j⟩
  obtain ⟨G, eG⟩ : ∃ G, G = gA t (dxG (znG g 1 0) g.1 x) g.1 L := ⟨_, rfl⟩
  rw [← eG] at hS2 hN2 hg2 hK2 hG1
  have hGle : zLe g G := by rw [eG]; exact z1.1.tr (gA_le L)
  have hGdx : zLe (dxG (znG g 1 0) g.1 x) G := by rw [eG]; exact gA_le L
  have hGsz : G.1 = (dxG (znG g 1 0) g.1 x).1 := by
    rw [eG]; cases L <;> rfl
  have hGtag : G.2.1 = (dxG (znG g 1 0) g.1 x).2.1 ∧ G.2.2.1 = (dxG (znG g 1 0) g.1 x).2.2.1 := by
    rw [eG]; cases L <;> exact ⟨rfl, rfl⟩
  have hG1s : G1.1 = G.1 ∧ G1.2.1 = G.2.1 ∧ G1.2.2.1 = G.2.2.1 := by rw [hG1]; split <;> exact ⟨rfl, rfl, rfl⟩
  have hG1o : ∀ y, y ≠ g.1 → G1.2.2.2 y = G.2.2.2 y := fun y hy => by
    rw [hG1]; split
    · exact zpR_o hy
    · rfl
  have hG1j : ∀ j, j ≠ 7 → G1.2.2.2 g.1 j = G.2.2.2 g.1 j := fun j hj => by
    rw [hG1]; split
    · exact zup_ne _ _ _ _ (Or.inr hj)
    · rfl
  have hG1le : zLe G G1 := ⟨by rw [hG1s.1]; exact Nat.le_refl _, fun y _ => by rw [hG1s.2.1, hG1s.2.2]; exact ⟨rfl, rfl⟩⟩
  have hzin : zIn b0 G1 g.1 1 := zIn.le (g := dxG (znG g 1 0) g.1 x) ⟨by omega, z4, z3⟩ (hGdx.tr hG1le)
  have hAm : AG b0 fs (t.1 + 1) (fun n => n < t.1) G (dxF (znG g 1 0) (znI g f) g.1 x) (M2 1) (t2N g R C t L) G1 F (M2 1) (t2N g R C t L) := by
    refine ⟨hG1le, fun n n0' _ n1 => ⟨fun h => ?_, fun h => ?_⟩, fun _ _ _ => rfl, fun _ _ _ _ _ _ => rfl, fun _ _ _ _ _ _ _ => rfl, fun _ _ _ => ⟨rfl, rfl, rfl⟩, by omega⟩
    · have n1 : n < t.1 := n1
      rw [(tN_o n1).1]
      rw [hT _ (by omega)] at h
      have := (hFr.1 n n0' n1 h).2.1
      exact ⟨hG1o _ (by omega), hF.1 _ (by omega)⟩
    · have n1 : n < t.1 := n1
      rw [(tN_o n1).1]
      rw [hT _ (by omega)] at h
      have := ((hFr.1 n n0' n1 (by rw [h]; decide)).2.2.2 h).1
      exact ⟨hG1o _ (by omega), hF.1 _ (by omega)⟩
  have hm0 : t.1 = fs → m = 0 := by
    intro z
    by_cases q : m = 0
    · exact q
    · obtain ⟨n, a1, a2, -⟩ := hN.2.1 0 (by omega)
      omega
  have e1 : (t2N g R C t L).2.1 t.1 = g.1 := tN_n.1
  have hgg : ∀ k, k ≠ 5 → k ≠ 6 → k ≠ 7 → G1.2.2.2 g.1 k = none := fun k h5 h6 h7 => (hG1j k h7).trans ((congrFun (hg2 g.1 (Nat.le_refl _)) k).trans (z6 k h5 h6))
  have hari := (sgn_p κ (by omega) hκ.1).2.2.2.2.1
  have hPE : PEc b0 n0 fs G1 F (M2 1) (t.1 + 1, (t2N g R C t L).2) (t.1, κ, 0, 0, 0) none := by
    refine ⟨⟨c7, Nat.lt_succ_self _, hTk, hκ.1, hκ.2⟩, ⟨?_, ?_, ?_, fun q => ?_⟩, ⟨fun q => ?_, fun q => ?_, fun q => ?_⟩, ⟨fun i hi => absurd hi (Nat.not_lt_zero i), Or.inl hari, fun i _ hi => ?_⟩, fun q => ?_, fun q => ?_, fun q => ?_, fun q => absurd rfl q⟩
    · show n0 ≤ (t2N g R C t L).2.1 t.1
      rw [e1]; omega
    · show zIn b0 G1 ((t2N g R C t L).2.1 t.1) 1
      rw [e1]; exact hzin
    · show F ((t2N g R C t L).2.1 t.1) 0 = sgn κ
      rw [e1, hF.2.1, hx]
    · show F ((t2N g R C t L).2.1 t.1) 1 = M2 1 (5 * t.1 + 1)
      rw [e1, hTa]; exact hF.2.2 q
    · show ∃ v, v < 26 ∧ M2 1 (5 * t.1 + 1) = nI v
      rw [hTa]; exact ha.1 q
    · show ∃ v, v < 6 ∧ M2 1 (5 * t.1 + 1) = nI v
      rw [hTa]; exact ha.2.1 q
    · show ∃ v, v < 4 ∧ M2 1 (5 * t.1 + 1) = nI v
      rw [hTa]; exact ha.2.2 q
    · show G1.2.2.2 ((t2N g R C t L).2.1 t.1) (2 + i) = _
      rw [e1, hgg _ (by omega) (by omega) (by omega)]
      split <;> rfl
    · have q : κ = 14 := q
      rcases hmr with ⟨-, w⟩ | ⟨h, w1, w2, w3, w4, w5⟩
      · exact absurd w (h14 q)
      · refine ⟨?_, h, w1, w2, ?_, ?_, ?_⟩
        · show (t2N g R C t L).2.2.2 t.1
          rw [tN_n.2.2]; exact h14 q
        · show M2 1 (5 * t.1 + 4) = nI h
          rw [hT4 q, w4]; exact sub1 (by omega)
        · show M2 1 (5 * h) = nI 15
          rw [hT _ (by omega)]; exact w3
        · show G1.2.2.2 ((t2N g R C t L).2.1 t.1) 7 = some ((t2N g R C t L).2.1 h)
          rw [e1, (tN_o w2).1, hG1, if_pos q]
          exact (zup_at _ _ _ _).trans w5
    · have q : ¬ κ = 15 := q
      obtain ⟨-, w2⟩ := dx_n (g := g) (fun z => q (hsg.mp z))
      show G1.2.2.2 ((t2N g R C t L).2.1 t.1) 5 = none ∧ G1.2.2.2 ((t2N g R C t L).2.1 t.1) 6 = none
      rw [e1, hG1j 5 (by decide), hG1j 6 (by decide), congrFun (hg2 g.1 (Nat.le_refl _)) 5, congrFun (hg2 g.1 (Nat.le_refl _)) 6]
      exact ⟨w2 5, w2 6⟩
    · have q : κ = 15 := q
      obtain rfl : x = 123 := hsg.mpr q
      obtain ⟨w1, w2, w3, w4, w5, w6, w7, w8⟩ := dx_h (g := g)
      show HP b0 G1 F (M2 1) (t.1 + 1, (t2N g R C t L).2) t.1 ((t2N g R C t L).2.1 t.1) 0 0 none
      rw [e1]
      refine ⟨⟨?_, ?_, ?_, ?_, ?_, ?_⟩, [], ?_, List.nodup_nil, fun _ hq => absurd hq List.not_mem_nil, fun w' _ _ => ?_, fun z => absurd rfl z⟩
      · rw [hG1j 5 (by decide), hg2 g.1 (Nat.le_refl _)]; exact w2
      · rw [hG1j 6 (by decide), hg2 g.1 (Nat.le_refl _)]; exact w3
      · refine zIn.le (g := dxG (znG g 1 0) g.1 123) ⟨by omega, by rw [w1]; omega, w4⟩ (hGdx.tr hG1le)
      · refine zIn.le (g := dxG (znG g 1 0) g.1 123) ⟨by omega, by rw [w1]; omega, w5⟩ (hGdx.tr hG1le)
      · rw [hG1s.2.2, hGtag.2]; exact w6
      · rw [hG1s.2.2, hGtag.2]; exact w7
      · rw [if_pos rfl]; exact hT3
      · rw [if_neg (fun z => z.1 rfl), hG1o _ (by omega), hg2 _ (by omega)]; exact w8 w'
  have hlen : ((t.1, κ, 0, 0, 0) :: L).length = L.length + 1 := rfl
  refine ⟨⟨hPE, ⟨⟨⟨r7.2, r8.2, r9.2.trans (hC1.2.2.2.2.2 _ (by omega)).symm, ?_⟩, ⟨hR4.2.trans (congrArg some e1.symm), hC1.2.2.2.1.1⟩, ⟨fun y => ?_, ?_⟩, fun _ _ => ⟨?_, hR8.2.trans (hR8.1 _ (by omega)).symm⟩, fun z => absurd rfl z⟩, fun z => absurd rfl z⟩, ?_⟩, ⟨c0.at (hC1.1 1 (by decide) (by decide) (by decide)) (h0j 8 (by decide) (by decide) (by decide) (by decide) (by decide)) (hr 6 (by decide) (by decide) (by decide) (by decide) (by decide) (by decide)), ⟨hC1.2.1, ?_, ?_, ?_, ?_⟩, ⟨hk2.2, by show fs ≤ t.1 + 1; omega, by show t.1 + 1 ≤ fs + k2; omega, by omega, by show opn L + 1 ≤ k2; omega, c11⟩, hC1.2.2.1, by rw [eX]; exact zup_at _ _ _ _⟩, ?_, ?_, ?_, ?_⟩
  · rw [r10.2, hR8.1 _ (by omega)]
    exact hmr.fr (NEW.ag0 (b0 := b0) (f := f) (x := x) (D := fun y => ml (C 7 L.length) y) (r := ¬ R 8 L.length = none) hFr hb hT) (Nat.le_refl _)
  · rw [hC1.2.2.2.2.2 _ (by omega)]
    show ml (C 7 L.length) y ↔ (t2N g R C t L).2.2.1 t.1 y
    rw [tN_n.2.1]
  · rw [hR8.1 _ (by omega)]
    show ¬ R 8 L.length = none ↔ (t2N g R C t L).2.2.2 t.1
    rw [tN_n.2.2]
  · rw [if_neg (fun z => absurd z.2 (show ¬ (0 : Nat) = 1 by decide)), hC1.2.2.2.2.1, hC1.2.2.2.2.2 _ (by omega)]
  · show STK b0 n0 fs G1 F R1 C1 M2 (t2N g R C t L) L t.1 (some ((t2N g R C t L).2.1 t.1))
    rw [e1]
    exact STK.fr (P := fun n => n < t.1) L t.1 t.1 _ hS2 ⟨hAm.1, fun n a b => hAm.2.1 n a (by omega), fun _ _ _ => rfl, fun _ _ _ _ _ _ => rfl, fun _ _ _ _ _ _ _ => rfl, fun _ _ _ => ⟨rfl, rfl, rfl⟩, hb⟩ (fun _ h => h) (Nat.le_refl _) ⟨fun _ _ => ⟨rfl, rfl, rfl, rfl, rfl⟩, fun _ _ => ⟨rfl, rfl, rfl, rfl⟩⟩
  · rw [eX, zup_ne _ _ _ _ (by omega), zup_r (by decide), zup_r (by decide), zup_r (by decide), zup_r (by decide), zup_r (by decide), zup_ne _ _ _ _ (by omega)]; exact p8
  · rw [eX, zup_ne _ _ _ _ (by omega), zup_r (by decide), zup_r (by decide), zup_r (by decide), zup_r (by decide), zup_r (by decide), zup_ne _ _ _ _ (by omega), p9, zup_ne _ _ _ _ (by omega), c3, if_neg hκ16]
    exact ixA (a := m) (b := 1) rfl (ixC 1)
  · rw [eX, zup_ne _ _ _ _ (by omega), zup_r (by decide), zup_r (by decide), zup_r (by decide), zup_r (by decide), zup_r (by decide), zup_ne _ _ _ _ (by omega), pmake_0 (by decide) (by decide), zup_at]
  · rw [h0j 15 (by decide) (by decide) (by decide) (by decide) (by decide)]; exact c5
  · have hnn := hN.new (G := G1) (F := F) (L' := (t.1, κ, 0, 0, 0) :: L) (D := fun y => ml (C 7 L.length) y) (r := ¬ R 8 L.length = none) (κ := κ) hT hTk hκ.2 c7 (by
      by_cases q : t.1 = fs
      · exact Or.inl q
      · exact Or.inr (hN.2.2.2 (by omega)).1) hm0 (fun n a b => by
      rcases hN2 n a b with q | q | ⟨κ', q1, q2, q3, q4⟩
      · obtain ⟨e', w1, w2⟩ := q
        exact Or.inl ⟨e', List.mem_cons_of_mem _ w1, w2⟩
      · exact Or.inr (Or.inl q)
      · exact Or.inr (Or.inr ⟨κ', q1, q2, q3.fr q2 q1 hAm a (Nat.lt_succ_of_lt b) b (Nat.le_refl _) q4, q4⟩)) (Or.inl ⟨_, List.mem_cons_self .., rfl⟩)
    unfold NDS at hnn ⊢
    rw [hR3]
    exact hnn
  · refine hFr.new hs0 hT hTk hκ.2 (hGle.tr hG1le) ⟨hzin.2.1, hzin.2.2⟩ (fun z => ?_)
    obtain rfl : x = 123 := hsg.mpr z
    obtain ⟨w1, -, -, w4, w5, -⟩ := dx_h (g := g)
    rw [hG1s.1, hGsz, hG1s.2.1, hGtag.1]
    exact ⟨by omega, w4, w5⟩
  · obtain ⟨⟨k1, k2'⟩, k3, k4, k5, k6, k7, k8⟩ := hK2
    refine ⟨⟨k1.tr hG1le, fun y hy => ⟨(hG1o y (by omega)).trans (k2' y hy).1, (hF.1 y (by omega)).trans (k2' y hy).2⟩⟩, k3, k4, k5, fun y y1 y2 => ?_, fun y y1 y2 y3 => ?_, k8⟩
    · have y2 : y < G1.1 := y2
      rw [hG1s.1] at y2
      show G1.2.1 y = 1 ∨ G1.2.1 y = 13 ∨ G1.2.1 y = 14
      rw [hG1s.2.1]; exact k6 y y1 y2
    · have y2 : y < G1.1 := y2
      have y3 : G1.2.1 y = 1 := y3
      rw [hG1s.1] at y2
      rw [hG1s.2.1] at y3
      have w := k7 y y1 y2 y3
      show (G1.2.2.2 y 5 = none ∧ G1.2.2.2 y 6 = none) ∨ (G1.2.2.2 y 5 = some (y + 1) ∧ G1.2.2.2 y 6 = some (y + 2) ∧ G1.2.2.1 (y + 1) = 7 ∧ G1.2.2.1 (y + 2) = 7 ∧ y + 2 < G1.1)
      rw [hG1s.1, hG1s.2.2]
      by_cases q : y = g.1
      · subst q
        rw [hG1j 5 (by decide), hG1j 6 (by decide)]; exact w
      · rw [hG1o y q]; exact w
  · rw [eX]
    refine MB.z (MB.z (MB.z (MB.z (MB.z (MB.z (MB.z ?_ (by omega)) (by omega)) (by omega)) (by omega)) (by omega)) (by omega)) (by omega)
    refine ⟨fun r a0 a1 a7 a8 a9 a10 => ?_, fun j b1 b2 b3 b4 b5 b6 => ?_, fun j hj => ?_⟩
    · rw [hr0 r a0 a1]; exact hMB.1 r a0 a1 a7 a8 a9 a10
    · rw [pmake_0 b1 b5, zup_ne _ _ _ _ (Or.inr b3)]; exact hMB.2.1 j b1 b2 b3 b4 b5 b6
    · rw [p1 j (by omega), zup_r (by decide)]; exact hMB.2.2 j hj
end LEAF
