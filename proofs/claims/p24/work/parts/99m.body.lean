/-! A body, made of what was read. -/
theorem bbd_all {g : zG} {R : zRf} {f : zI} {n : Nat} : zXt g (bbdG g R n) ∧ (∀ y, y < g.1 → bbdF g R f n y = f y) ∧ (bbdG g R n).1 = g.1 + 3 ∧ ((bbdG g R n).2.1 g.1 = 14 ∧ (bbdG g R n).2.1 (g.1 + 1) = 0 ∧ (bbdG g R n).2.1 (g.1 + 2) = 13) ∧ (bbdG g R n).2.2.1 g.1 = n ∧ (∀ i, i < n → (bbdG g R n).2.2.2 g.1 i = R 3 i) ∧ (bbdG g R n).2.2.2 (g.1 + 1) 0 = some ((R 3 0).getD 0) ∧ (bbdG g R n).2.2.2 (g.1 + 1) 1 = some g.1 := by
  obtain ⟨A, eA⟩ : ∃ A, A = arG g 14 (R 3) n n := ⟨_, rfl⟩
  have a1 : A.1 = g.1 + 1 := by rw [eA]; rfl
  have at1 : A.2.1 g.1 = 14 := by rw [eA]; exact zu1_at _ _ _
  have al1 : A.2.2.1 g.1 = n := by rw [eA]; exact zu1_at _ _ _
  have ar1 : ∀ i, i < n → A.2.2.2 g.1 i = R 3 i := fun i hi => by
    rw [eA]
    show zu1 _ g.1 (fun i => if i < n then R 3 i else none) g.1 i = R 3 i
    rw [zu1_at, if_pos hi]
  have ax : zXt g A := by rw [eA]; exact zXt.ar g 14 (R 3) n n
  obtain ⟨D, eD⟩ : ∃ D, D = znG (znG A 0 0) 13 0 := ⟨_, rfl⟩
  have dx : zXt A D := by rw [eD]; exact (zXt.new A 0 0).tr (zXt.new _ 13 0)
  have d1 : D.1 = g.1 + 3 := by rw [eD]; show A.1 + 1 + 1 = _; omega
  have dt1 : D.2.1 (g.1 + 1) = 0 := by
    rw [eD]
    show zu1 (zu1 A.2.1 A.1 0) (A.1 + 1) 13 (g.1 + 1) = 0
    rw [zu1_ne _ _ _ (by omega), ← a1, zu1_at]
  have dt2 : D.2.1 (g.1 + 2) = 13 := by
    rw [eD]
    show zu1 (zu1 A.2.1 A.1 0) (A.1 + 1) 13 (g.1 + 2) = 13
    rw [show g.1 + 2 = A.1 + 1 by omega, zu1_at]
  have eB : bbdG g R n = zpR (zpR (zpR D (g.1 + 1) 2 (some (A.1 + 1))) (g.1 + 1) 0 (some ((R 3 0).getD 0))) (g.1 + 1) 1 (some g.1) := by
    unfold bbdG dbG
    rw [← eA, ← eD]
    rfl
  have ro : ∀ y, y ≠ g.1 + 1 → (bbdG g R n).2.2.2 y = D.2.2.2 y := fun y hy => by rw [eB, zpR_o hy, zpR_o hy, zpR_o hy]
  have rt : (bbdG g R n).2.1 = D.2.1 ∧ (bbdG g R n).2.2.1 = D.2.2.1 ∧ (bbdG g R n).1 = D.1 := by rw [eB]; exact ⟨rfl, rfl, rfl⟩
  have gx := ax.tr dx
  refine ⟨⟨⟨by rw [rt.2.2]; exact gx.1.1, fun a ha => by rw [rt.1, rt.2.1]; exact gx.1.2 a ha⟩, fun a ha => by rw [ro a (by omega)]; exact gx.2 a ha⟩, fun y hy => ?_, rt.2.2.trans d1, ⟨?_, ?_, ?_⟩, ?_, fun i hi => ?_, ?_, ?_⟩
  · unfold bbdF
    rw [← eA]
    unfold znI
    rw [zu1_ne _ _ _ (by show y ≠ A.1 + 1; omega), zu1_ne _ _ _ (by omega), zu1_ne _ _ _ (by omega)]
  · rw [rt.1, (dx.1.2 g.1 (by omega)).1]; exact at1
  · rw [rt.1]; exact dt1
  · rw [rt.1]; exact dt2
  · rw [rt.2.1, (dx.1.2 g.1 (by omega)).2]; exact al1
  · rw [ro _ (by omega), dx.2 g.1 (by omega)]; exact ar1 i hi
  · rw [eB]
    show zup (zup _ (g.1 + 1) 0 (some ((R 3 0).getD 0))) (g.1 + 1) 1 (some g.1) (g.1 + 1) 0 = _
    rw [zup_ne _ _ _ _ (by omega), zup_at]
  · rw [eB]
    exact zup_at _ _ _ _
/-- a body of the nodes from n on: what may() reads -/
def BD (b0 n0 : Nat) (g : zG) (f M : zI) (t : zTs) (n a : Nat) : Prop := ∃ e A k, ((n < e ∧ e ≤ n + 120) ∧ e ≤ t.1 ∧ M 11 n = nI e) ∧ (g.2.2.2 a 1 = some A ∧ n0 ≤ A ∧ zIn b0 g A 14 ∧ g.2.2.1 A = k ∧ k ≤ 120) ∧ (∀ i, i < k → ∃ m, n ≤ m ∧ m < e ∧ ¬ M 1 (5 * m) = nI 16 ∧ g.2.2.2 A i = some (t.2.1 m)) ∧ (∀ m, n ≤ m → m < e → ¬ M 1 (5 * m) = nI 16 → ∃ i, i < k ∧ g.2.2.2 A i = some (t.2.1 m)) ∧
  ∀ m, n ≤ m → m < e → (M 1 (5 * m) = nI 16 ∧ ∃ b, n ≤ b ∧ b < e ∧ M 1 (5 * m + 2) = nI b ∧ ¬ M 1 (5 * b) = nI 16) ∨ ∃ k, k ≤ 15 ∧ M 1 (5 * m) = nI k ∧ EN b0 n0 g f (M 1) (e, t.2) k m ∧ (k = 14 → ∃ h, n ≤ h ∧ h < m ∧ M 1 (5 * m + 4) = nI h)
section BODY
variable {b0 n0 : Nat} {g G : zG} {f F : zI} {R R' : zRf} {C0 C' M M0 N : zI} {t t' : zTs} {m : Nat}
theorem EN.xt {g G : zG} {f F : zI} {T : Nat → Int32} {t : zTs} {k n : Nat} (h : EN b0 n0 g f T t k n) (hk : T (5 * n) = nI k) (hk2 : k ≤ 15) (hn : n < t.1) (hu : t.1 ≤ 65536) (hx : zXt g G) (hF : ∀ y, y < g.1 → F y = f y) (ho : ∀ i, i < t.1 → ¬ T (5 * i) = nI 16 → t.2.1 i < g.1 ∧ (T (5 * i) = nI 15 → t.2.1 i + 2 < g.1)) : EN b0 n0 G F T t k n := by
  have hA : AG b0 0 t.1 (fun _ => True) g f T t G F T t := ⟨hx.1, fun i _ hi _ => ⟨fun z => ⟨hx.2 _ (ho i hi z).1, hF _ (ho i hi z).1⟩, fun z => by
    have := (ho i hi (by rw [z]; decide)).2 z
    exact ⟨hx.2 _ (by omega), hF _ this⟩⟩, fun _ _ _ => rfl, fun _ _ _ _ _ _ => rfl, fun _ _ _ _ _ _ _ => rfl, fun _ _ _ => ⟨rfl, rfl, rfl⟩, hu⟩
  exact EN.fr (ub := t.1) (ub' := t.1) (fs := 0) h hk hk2 hA (Nat.zero_le _) hn trivial (Nat.le_refl _) (fun q => by
    obtain ⟨-, h', d2, d3, -⟩ := h.2.2.2.1 q
    exact ⟨h', Nat.zero_le _, d2, d3⟩)
/-- what was read becomes a body -/
theorem BODY (hT : TR b0 n0 g f (M 1) t) (hFR : FRS n0 0 g M t) (hg : b0 ≤ g.1 ∧ n0 ≤ g.1) (hK : KB (g, R, f, C0) (G, R', F, C')) (hMB : ∀ j, j < 5 * t.1 → N 1 j = M 1 j) (htt : t.1 < t'.1 ∧ t'.1 ≤ t.1 + 120 ∧ t'.1 ≤ 65000) (hm : m ≤ 120) (hN : NDS b0 n0 t.1 G F R' N t' [] m) (hF : FRS g.1 t.1 G N t') (ho : ∀ n, n < t.1 → t'.2.1 n = t.2.1 n ∧ t'.2.2.1 n = t.2.2.1 n ∧ t'.2.2.2 n = t.2.2.2 n) (h11 : N 11 t.1 = nI t'.1) (hCl : ∀ m, t.1 ≤ m → m < t'.1 → N 1 (5 * m) = nI 16 → ∃ b, t.1 ≤ b ∧ b < t'.1 ∧ N 1 (5 * m + 2) = nI b ∧ ¬ N 1 (5 * b) = nI 16) :
    TR b0 n0 (bbdG G R' m) (bbdF G R' F m) (N 1) t' ∧ FRS n0 0 (bbdG G R' m) N t' ∧ BD b0 n0 (bbdG G R' m) (bbdF G R' F m) N t' t.1 (G.1 + 1) ∧ (bbdG G R' m).2.2.2 (G.1 + 1) 0 = some (t'.2.1 t.1) := by
  obtain ⟨x1, x2, x3, ⟨x4, x5, x6⟩, x7, x8, x9, x10⟩ := bbd_all (g := G) (R := R') (f := F) (n := m)
  have hgG : g.1 ≤ G.1 := hK.1.1.1
  obtain ⟨n1, n2, n3, n4⟩ := hN
  have hT1 := hT.join (G := G) (F := F) (N := N) (t' := t') (KB.mv hK) hMB ⟨by omega, htt.2.2⟩ ho (fun n a b => by
    rcases n1 n a b with ⟨e, he, -⟩ | h | ⟨k, k1, k2, k3, -⟩
    · cases he
    · exact Or.inl h
    · exact Or.inr ⟨k, k1, k2, k3⟩)
  have hT2 : TR b0 n0 (bbdG G R' m) (bbdF G R' F m) (N 1) t' := TR.ext x1 (fun y hy _ => x2 y hy) (fun y hy k _ => by rw [x2 y hy]) hT1
  have hFa : ∀ n, n < t'.1 → ¬ N 1 (5 * n) = nI 16 → n0 ≤ t'.2.1 n ∧ t'.2.1 n < G.1 ∧ G.2.1 (t'.2.1 n) = 1 ∧ (N 1 (5 * n) = nI 15 → t'.2.1 n + 2 < G.1 ∧ G.2.1 (t'.2.1 n + 1) = 14 ∧ G.2.1 (t'.2.1 n + 2) = 13) := fun n hn h16 => by
    by_cases q : n < t.1
    · rw [hMB _ (by omega)] at h16 ⊢
      obtain ⟨a1, a2, a3, a4⟩ := hFR.1 n (Nat.zero_le _) q h16
      rw [(ho n q).1]
      refine ⟨a1, by omega, (hK.1.1.2 _ a2).1.trans a3, fun z => ?_⟩
      obtain ⟨b1, b2, b3⟩ := a4 z
      exact ⟨by omega, (hK.1.1.2 _ (show t.2.1 n + 1 < g.1 by omega)).1.trans b2, (hK.1.1.2 _ b1).1.trans b3⟩
    · obtain ⟨a1, a2, a3, a4⟩ := hF.1 n (by omega) hn h16
      exact ⟨by omega, a2, a3, a4⟩
  refine ⟨hT2, ⟨fun n _ hn h16 => ?_, fun n n' _ hnn hn' h16 h16' => ?_⟩, ⟨t'.1, G.1, m, ⟨⟨htt.1, htt.2.1⟩, Nat.le_refl _, h11⟩, ⟨x10, by omega, ⟨by omega, by omega, x4⟩, x7, hm⟩, fun i hi => ?_, fun n a b c => ?_, fun n a b => ?_⟩, ?_⟩
  · obtain ⟨a1, a2, a3, a4⟩ := hFa n hn h16
    refine ⟨a1, by omega, (x1.1.2 _ a2).1.trans a3, fun z => ?_⟩
    obtain ⟨b1, b2, b3⟩ := a4 z
    exact ⟨by omega, (x1.1.2 _ (by omega)).1.trans b2, (x1.1.2 _ b1).1.trans b3⟩
  · by_cases q : n < t.1
    · by_cases q' : n' < t.1
      · rw [(ho n q).1, (ho n' q').1]
        rw [hMB _ (by omega)] at h16 h16'
        exact hFR.2 n n' (Nat.zero_le _) hnn q' h16 h16'
      · rw [(ho n q).1]
        rw [hMB _ (by omega)] at h16
        have a2 := (hFR.1 n (Nat.zero_le _) q h16).2.1
        have b1 := (hF.1 n' (by omega) hn' h16').1
        omega
    · exact hF.2 n n' (by omega) hnn hn' h16 h16'
  · obtain ⟨n, a1, a2, a3, a4⟩ := n2 i hi
    exact ⟨n, a1, a2, a3, (x8 i hi).trans a4⟩
  · obtain ⟨i, a1, a2⟩ := n3 n a b c
    exact ⟨i, a1, (x8 i a1).trans a2⟩
  · rcases n1 n a b with ⟨e, he, -⟩ | h | ⟨k, k1, k2, k3, k4⟩
    · cases he
    · exact Or.inl ⟨h, hCl n a b h⟩
    · refine Or.inr ⟨k, k1, k2, k3.xt k2 k1 b (by show t'.1 ≤ 65536; omega) x1 x2 (fun i hi h16 => ?_), k4⟩
      obtain ⟨-, c2, -, c4⟩ := hFa i hi h16
      exact ⟨c2, fun z => (c4 z).1⟩
  · rw [x9, (n4 htt.1).2.1]
    rfl
end BODY
