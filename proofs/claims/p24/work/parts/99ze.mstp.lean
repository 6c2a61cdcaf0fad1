/-! may, in both: one step. -/
def mTv (f M : zI) (t : zTs) (k n : Nat) : Int32 := f (t.2.1 (if M 1 (5 * n) = nI 16 then tn (M 1 (5 * n + 2)) else n)) k
/-- the class's notes, as a table of the reference's -/
def mT (f M : zI) (t : zTs) : zI := fun r n => if r = 14 then mTv f M t 8 n else if r = 15 then mTv f M t 9 n else M r n
theorem or_0 (x : Int32) : x ||| 0 = x := b_ext (fun i _ => by rw [b_or, b_0, Bool.or_false])
theorem zor (x : Int32) : 0 ||| x = x := b_ext (fun i _ => by rw [b_or, b_0, Bool.false_or])
section MSTP
variable {b0 n0 : Nat} {g : zG} {f M N : zI} {t : zTs} {R : zRf} {κ m e : Nat}
theorem mT_r {r : Nat} (h14 : r ≠ 14) (h15 : r ≠ 15) : mT f M t r = M r := by
  funext n
  exact (if_neg h14).trans (if_neg h15)
theorem mT_same : psame M (mT f M t) := fun r a b => mT_r a b
theorem mT_14 {b : Nat} (h : ¬ M 1 (5 * b) = nI 16) : mT f M t 14 b = f (t.2.1 b) 8 := by
  refine (if_pos rfl).trans ?_
  unfold mTv
  rw [if_neg h]
theorem mT_15 {b : Nat} (h : ¬ M 1 (5 * b) = nI 16) : mT f M t 15 b = f (t.2.1 b) 9 := by
  refine (if_neg (by decide)).trans ((if_pos rfl).trans ?_)
  unfold mTv
  rw [if_neg h]
theorem mT_c {q b : Nat} (h : M 1 (5 * q) = nI 16) (hb : M 1 (5 * q + 2) = nI b) (h2 : b < 2 ^ 31) : mT f M t 14 q = f (t.2.1 b) 8 ∧ mT f M t 15 q = f (t.2.1 b) 9 := by
  constructor
  · refine (if_pos rfl).trans ?_
    unfold mTv
    rw [if_pos h, hb, tn_nI h2]
  · refine (if_neg (by decide)).trans ((if_pos rfl).trans ?_)
    unfold mTv
    rw [if_pos h, hb, tn_nI h2]
theorem mgl (hE : EN b0 n0 g f (M 1) (e, t.2) κ m) (he : e ≤ 65000) {i : Nat} (hi : i < 3) : glv f (g.2.2.2 (t.2.1 m) (2 + i)) = (if i < ari κ then mT f M t 14 (tn (M 1 (5 * m + 2 + i))) else 0) ∧ glt f (g.2.2.2 (t.2.1 m) (2 + i)) = (if i < ari κ then mT f M t 15 (tn (M 1 (5 * m + 2 + i))) else 0) := by
  by_cases q : i < ari κ
  · obtain ⟨m', m1, m2, m3, m4, m5, -⟩ := (hE.2.2.1 i hi).1 q
    have m2 : m' < e := m2
    have m5 : g.2.2.2 (t.2.1 m) (2 + i) = some (t.2.1 m') := m5
    rw [if_pos q, if_pos q, m5, m3, tn_nI (by omega), mT_14 m4, mT_15 m4]
    exact ⟨rfl, rfl⟩
  · have m5 : g.2.2.2 (t.2.1 m) (2 + i) = none := (hE.2.2.1 i hi).2 (by omega)
    rw [if_neg q, if_neg q, m5]
    exact ⟨rfl, rfl⟩
theorem ppt_e (N1 : N 1 = M 1) (hm : m < 65000) {j : Nat} (hj : j ≤ 3) : ppart N (nI m) (nI j) = M 1 (5 * m + 1 + j) := by
  unfold ppart
  rw [N1, tn_nI (by omega), tn_nI (by omega)]
theorem ppr3 (N1 : N 1 = M 1) (hm : m < 65000) (r : Nat) (h : 1 ≤ ari κ ∧ ari κ ≤ 3) : pprA N r (nI m) (ari κ) 1 0 = ((if 0 < ari κ then N r (tn (M 1 (5 * m + 2 + 0))) else 0) ||| (if 1 < ari κ then N r (tn (M 1 (5 * m + 2 + 1))) else 0)) ||| (if 2 < ari κ then N r (tn (M 1 (5 * m + 2 + 2))) else 0) := by
  have hs : ari κ = 1 ∨ ari κ = 2 ∨ ari κ = 3 := by omega
  have p1 := ppt_e N1 hm (j := 1) (by decide)
  have p2 := ppt_e N1 hm (j := 2) (by decide)
  have p3 := ppt_e N1 hm (j := 3) (by decide)
  rcases hs with q | q | q <;> rw [q]
  · show 0 ||| N r (tn (ppart N (nI m) (nI 1))) = _
    rw [p1, if_pos (by decide), if_neg (by decide), if_neg (by decide), or_0, or_0, zor]
  · show (0 ||| N r (tn (ppart N (nI m) (nI 1)))) ||| N r (tn (ppart N (nI m) (nI 2))) = _
    rw [p1, p2, if_pos (by decide), if_pos (by decide), if_neg (by decide), or_0, zor]
  · show ((0 ||| N r (tn (ppart N (nI m) (nI 1)))) ||| N r (tn (ppart N (nI m) (nI 2)))) ||| N r (tn (ppart N (nI m) (nI 3))) = _
    rw [p1, p2, p3, if_pos (by decide), if_pos (by decide), if_pos (by decide), zor]
theorem ppr2 (N1 : N 1 = M 1) (hm : m < 65000) (r : Nat) (h : 1 ≤ ari κ ∧ ari κ ≤ 3) (s : Int32) : pprA N r (nI m) (ari κ - 1) 2 s = (s ||| (if 1 < ari κ then N r (tn (M 1 (5 * m + 2 + 1))) else 0)) ||| (if 2 < ari κ then N r (tn (M 1 (5 * m + 2 + 2))) else 0) := by
  have hs : ari κ = 1 ∨ ari κ = 2 ∨ ari κ = 3 := by omega
  have p2 := ppt_e N1 hm (j := 2) (by decide)
  have p3 := ppt_e N1 hm (j := 3) (by decide)
  rcases hs with q | q | q <;> rw [q]
  · show s = _
    rw [if_neg (by decide), if_neg (by decide), or_0, or_0]
  · show s ||| N r (tn (ppart N (nI m) (nI 2))) = _
    rw [p2, if_pos (by decide), if_neg (by decide), or_0]
  · show (s ||| N r (tn (ppart N (nI m) (nI 2)))) ||| N r (tn (ppart N (nI m) (nI 3))) = _
    rw [p2, p3, if_pos (by decide), if_pos (by decide)]
theorem pk_e (N1 : N 1 = M 1) (hm : m < 65000) (hk : M 1 (5 * m) = nI κ) : pkind N (nI m) = nI κ := by
  unfold pkind
  rw [N1, tn_nI (by omega)]; exact hk
/-- what the parts give -/
theorem plv_g (hE : EN b0 n0 g f (M 1) (e, t.2) κ m) (he : e ≤ 65000) (hm : m < e) (hk : M 1 (5 * m) = nI κ) (h2 : 2 ≤ κ) (h15 : κ < 15) : pleaves (mT f M t) (nI m) = plvE (mT f M t) (nI m) (gnl0 g f (t.2.1 m)) ∧ plate (mT f M t) (nI m) = pltE (mT f M t) (nI m) (gnt0 g f (t.2.1 m)) := by
  have N1 : mT f M t 1 = M 1 := mT_r (by decide) (by decide)
  have hpk := pk_e N1 (by omega) hk
  obtain ⟨-, -, -, hpp, ha⟩ := sgn_p κ (by omega) h2
  have c0 : ¬ pkind (mT f M t) (nI m) < 2 := by rw [hpk]; exact nI_nlt (b := 2) h2 (by omega)
  have c16 : ¬ pkind (mT f M t) (nI m) = 16 := by rw [hpk]; exact fun z => absurd ((nI_eq (b := 16) (by omega) (by decide)).mp z) (by omega)
  have c15 : ¬ pkind (mT f M t) (nI m) = 15 := by rw [hpk]; exact fun z => absurd ((nI_eq (b := 15) (by omega) (by decide)).mp z) (by omega)
  have htn : tn (pparts (pkind (mT f M t) (nI m))) = ari κ := by rw [hpk, hpp, tn_nI (by omega)]
  have g0 := mgl hE he (i := 0) (by decide)
  have g1 := mgl hE he (i := 1) (by decide)
  have g2 := mgl hE he (i := 2) (by decide)
  constructor
  · rw [plv_1 c0 c16 c15, htn, ppr3 N1 (by omega) 14 ha, ← g0.1, ← g1.1, ← g2.1]
    rfl
  · rw [plt_1 c0 c15, if_neg c16, htn, ppr2 N1 (by omega) 15 ha, ← g1.2, ← g2.2]
    have p1 : ppart (mT f M t) (nI m) 1 = M 1 (5 * m + 2 + 0) := ppt_e N1 (by omega) (j := 1) (by decide)
    have g02 := g0.2
    rw [if_pos (show 0 < ari κ from ha.1)] at g02
    rw [p1, ← g02]
    rfl
theorem sgn_no : ∀ κ, κ < 10 → ¬ sgn κ = 37 ∧ ¬ sgn κ = 38 ∧ ¬ sgn κ = 64 ∧ ¬ sgn κ = 94 ∧ ¬ sgn κ = 123 ∧ ¬ sgn κ = 126 := by decide +kernel
theorem ne_k {κ b : Nat} (h : κ < 100) (hb : b < 100) (hn : κ ≠ b) : ¬ nI κ = nI b := fun z => hn ((nI_eq (by omega) (by omega)).mp z)
/-- the bodies, as & asks for them -/
def BOm (g : zG) (M : zI) (t : zTs) (R : zRf) : Prop := ∀ p, p < 4 → (M 2 (1 + p) = -9 ∧ R 18 p = none) ∨ ∃ r a, r < 65000 ∧ M 2 (1 + p) = nI r ∧ ¬ M 1 (5 * r) = nI 16 ∧ R 18 p = some a ∧ g.2.2.2 a 0 = some (t.2.1 r)
theorem mlv (hE : EN b0 n0 g f (M 1) (e, t.2) κ m) (he : e ≤ 65000) (hm : m < e) (hk : M 1 (5 * m) = nI κ) (hB : BOm g M t R) (h15 : κ < 15) : gnl g R f (t.2.1 m) = pleaves (mT f M t) (nI m) ∧ gnt g R f (t.2.1 m) = plate (mT f M t) (nI m) := by
  have N1 : mT f M t 1 = M 1 := mT_r (by decide) (by decide)
  have hpk := pk_e N1 (by omega) hk
  have f0 : f (t.2.1 m) 0 = sgn κ := hE.1.2.2.1
  have parg_e : parg (mT f M t) (nI m) = M 1 (5 * m + 1) := by
    unfold parg
    rw [N1, tn_nI (by omega)]
  by_cases h2 : 2 ≤ κ
  · obtain ⟨e1, e2⟩ := plv_g hE he hm hk h2 h15
    rw [e1, e2]
    unfold plvE pltE
    rw [hpk]
    by_cases h10 : κ < 10
    · obtain ⟨n1, n2, n3, n4, n5, n6⟩ := sgn_no κ h10
      rw [← f0] at n1 n2 n3 n4 n5 n6
      have k10 : ¬ nI κ = 10 := ne_k (b := 10) (by omega) (by decide) (by omega)
      have k11 : ¬ nI κ = 11 := ne_k (b := 11) (by omega) (by decide) (by omega)
      have k12 : ¬ nI κ = 12 := ne_k (b := 12) (by omega) (by decide) (by omega)
      have k13 : ¬ nI κ = 13 := ne_k (b := 13) (by omega) (by decide) (by omega)
      have k14 : ¬ nI κ = 14 := ne_k (b := 14) (by omega) (by decide) (by omega)
      rw [gnl_d n1 n2 n3 n4 n5 n6, gnt_d n1 n2 n3 n4 n5 n6, if_neg k10, if_neg k11, if_neg k12, if_neg k13, if_neg k14, if_neg k12, if_neg k13, if_neg k14]
      exact ⟨rfl, rfl⟩
    · have hs : κ = 10 ∨ κ = 11 ∨ κ = 12 ∨ κ = 13 ∨ κ = 14 := by omega
      rcases hs with rfl | rfl | rfl | rfl | rfl
      · obtain ⟨a, a1, a2⟩ := hE.2.1.2.1 (Or.inl rfl)
        have f1 : f (t.2.1 m) 1 = nI a := (hE.1.2.2.2 (by decide)).trans a2
        rw [gnl_94 f0, gnt_94 f0, if_pos (by decide), if_neg (by decide), if_neg (by decide), if_neg (by decide), f1, parg_e, a2]
        refine ⟨?_, rfl⟩
        rw [show gpair (nI a) 0 = 1 <<< (nI (4 * a + 0) &&& 31) from gpair_n a 0, show (4 : Int32) * nI a = nI (4 * a) from ixM (ixC 4) rfl]
        rfl
      · obtain ⟨a, a1, a2⟩ := hE.2.1.2.1 (Or.inr rfl)
        have f1 : f (t.2.1 m) 1 = nI a := (hE.1.2.2.2 (by decide)).trans a2
        rw [gnl_126 f0, gnt_126 f0, if_neg (by decide), if_pos (by decide), if_neg (by decide), if_neg (by decide), if_neg (by decide), f1, parg_e, a2, grai_m a1]
        exact ⟨rfl, rfl⟩
      · have g1 := mgl hE he (i := 1) (by decide)
        rw [gnl_37 f0, gnt_37 f0, if_neg (by decide), if_neg (by decide), if_pos (by decide), if_pos (by decide)]
        refine ⟨rfl, ?_⟩
        rw [show ppart (mT f M t) (nI m) 2 = M 1 (5 * m + 2 + 1) from ppt_e N1 (by omega) (j := 2) (by decide)]
        have g11 := g1.1
        rw [if_pos (by decide)] at g11
        rw [← g11]
      · obtain ⟨p, p1, p2⟩ := hE.2.1.2.2 rfl
        have f1 : f (t.2.1 m) 1 = nI p := (hE.1.2.2.2 (by decide)).trans p2
        have hp4 : ¬ nI p < 0 ∧ nI p < 4 := ⟨nI_pos (by omega), nI_lt (b := 4) p1 (by decide)⟩
        rw [gnl_38 f0, gnt_38 f0, if_neg (by decide), if_neg (by decide), if_neg (by decide), if_pos (by decide), if_neg (by decide), if_pos (by decide), f1]
        have w2 : mT f M t 2 = M 2 := mT_r (by decide) (by decide)
        have hc : ∀ r, pcal (mT f M t) r (nI m) = if M 2 (1 + p) = -9 then 0 else mT f M t r (tn (M 2 (1 + p))) := fun r => by
          unfold pcal
          rw [parg_e, p2, tn_nI (by omega), w2]
        rw [hc, hc]
        rcases hB p p1 with ⟨z1, z2⟩ | ⟨r, a, z1, z2, z3, z4, z5⟩
        · rw [gcalled_0 hp4 (by rw [tn_nI (by omega)]; exact z2), if_pos z1, if_pos z1]
          exact ⟨rfl, rfl⟩
        · rw [gcalled_s hp4 (b := a) (by rw [tn_nI (by omega)]; exact z4), pA_eq z5, z2, if_neg ((iv_nI (N := 65000) z1 (by decide)).nn (by decide)), if_neg ((iv_nI (N := 65000) z1 (by decide)).nn (by decide)), tn_nI (by omega), mT_14 z3, mT_15 z3]
          exact ⟨rfl, rfl⟩
      · obtain ⟨-, h, d1, d2, d3, d4⟩ := hE.2.2.2.1 rfl
        have d4 : g.2.2.2 (t.2.1 m) 7 = some (t.2.1 h) := d4
        have d16 : ¬ M 1 (5 * h) = nI 16 := by rw [d3]; decide
        rw [gnl_64 f0, gnt_64 f0, if_neg (by decide), if_neg (by decide), if_neg (by decide), if_neg (by decide), if_pos (by decide), if_neg (by decide), if_neg (by decide), if_pos (by decide), d4, N1, tn_nI (by omega), d2, tn_nI (by omega), mT_14 d16, mT_15 d16]
        exact ⟨rfl, rfl⟩
  · have h10 : κ < 10 := by omega
    obtain ⟨n1, n2, n3, n4, n5, n6⟩ := sgn_no κ h10
    rw [← f0] at n1 n2 n3 n4 n5 n6
    have c0 : pkind (mT f M t) (nI m) < 2 := by rw [hpk]; exact nI_lt (b := 2) (by omega) (by decide)
    have ha : ari κ = 0 := by
      have hs : κ = 0 ∨ κ = 1 := by omega
      rcases hs with rfl | rfl <;> rfl
    have g0 := mgl hE he (i := 0) (by decide)
    have g1 := mgl hE he (i := 1) (by decide)
    have g2 := mgl hE he (i := 2) (by decide)
    rw [if_neg (by omega), if_neg (by omega)] at g0 g1 g2
    rw [gnl_d n1 n2 n3 n4 n5 n6, gnt_d n1 n2 n3 n4 n5 n6, show pleaves (mT f M t) (nI m) = 0 from if_pos c0, show plate (mT f M t) (nI m) = 0 from if_pos c0]
    constructor
    · show (glv f (g.2.2.2 (t.2.1 m) (2 + 0)) ||| glv f (g.2.2.2 (t.2.1 m) (2 + 1))) ||| glv f (g.2.2.2 (t.2.1 m) (2 + 2)) = 0
      rw [g0.1, g1.1, g2.1]; rfl
    · show (glt f (g.2.2.2 (t.2.1 m) (2 + 0)) ||| glt f (g.2.2.2 (t.2.1 m) (2 + 1))) ||| glt f (g.2.2.2 (t.2.1 m) (2 + 2)) = 0
      rw [g0.2, g1.2, g2.2]; rfl
end MSTP
