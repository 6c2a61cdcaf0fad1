/-! A text is read, in both: what stands behind a sign. -/
theorem bmk {g : zG} {R : zRf} {f C : zI} {y n e lo hi : Nat} {sz : Int32} (hs : nI lo + sz = nI (hi + 1)) (h9 : ¬ C 2 9 < 1) (h4 : R 4 n = some e) (hy : y ≤ 126) (hlo : lo ≤ hi ∧ hi ≤ 126) :
    (lo ≤ y ∧ y ≤ hi → bmarkA g R f C (nI y) (nI lo) sz n = ((g, R, zup f e 1 (nI (y - lo)), zup C 2 2 0), 1)) ∧ (¬ (lo ≤ y ∧ y ≤ hi) → bmarkA g R f C (nI y) (nI lo) sz n = ((g, R, f, C), 0)) := by
  have a : nI y < nI lo ↔ y < lo := nI_ltI (by omega) (by omega)
  have b : nI y < nI (hi + 1) ↔ y < hi + 1 := nI_ltI (by omega) (by omega)
  unfold bmarkA
  rw [hs]
  refine ⟨fun q => ?_, fun q => ?_⟩
  · rw [if_pos ⟨⟨fun z => by have := a.mp z; omega, b.mpr (by omega)⟩, h9⟩, h4]
    rw [show nI y - nI lo = nI (y - lo) from ixS rfl rfl q.1]
    rfl
  · rw [if_neg (fun z => q ⟨Nat.le_of_not_lt (fun w => z.1.1 (a.mpr w)), by have := b.mp z.1.2; omega⟩)]
theorem barg {κ : Nat} (hκ : κ = 8 ∨ κ = 10 ∨ κ = 11 ∨ κ = 13) : ∃ lo hi : Nat, (1 ≤ lo ∧ lo ≤ hi ∧ hi ≤ 126) ∧ (∀ N, preadArg N (nI κ) = ptake N (nI lo) (nI hi)) ∧ ((κ = 8 → hi < lo + 26) ∧ (κ = 10 ∨ κ = 11 → hi < lo + 6) ∧ (κ = 13 → hi < lo + 4)) ∧
    ∀ (g : zG) (R : zRf) (f C : zI) (y n m e : Nat), C 2 2 = nxk κ → ¬ C 2 9 < 1 → R 4 n = some e → g.2.2.2 e 6 = none → y ≤ 126 →
      (lo ≤ y ∧ y ≤ hi → bacc g R f C (nI y) n m = ((g, R, zup f e 1 (nI (y - lo)), zup (zup C 2 3 0) 2 2 0), 1)) ∧ (¬ (lo ≤ y ∧ y ≤ hi) → bacc g R f C (nI y) n m = ((g, R, f, zup C 2 3 0), 0)) := by
  rcases hκ with rfl | rfl | rfl | rfl
  · refine ⟨97, 122, by decide, fun N => rfl, ⟨by omega, by omega, by omega⟩, fun g R f C y n m e h22 h9 h4 h6 hy => ?_⟩
    have h9' : ¬ zup C 2 3 0 2 9 < 1 := by rw [zup_ne _ _ _ _ (by omega)]; exact h9
    have h6' : g.2.2.2 ((R 4 n).getD 0) 6 = none := by rw [h4]; exact h6
    rw [bacc_1 h22]
    refine ⟨fun q => ?_, fun q => ?_⟩
    · rw [bvarA_n ((ltrI hy).mpr q) h9' h6', h4]
      rw [show nI y - 97 = nI (y - 97) from ixS rfl (ixC 97) q.1]
      rfl
    · rw [bvarA_0 (fun z => q ((ltrI hy).mp z.1))]
  · refine ⟨65, 70, by decide, fun N => rfl, ⟨by omega, by omega, by omega⟩, fun g R f C y n m e h22 h9 h4 h6 hy => ?_⟩
    have h9' : ¬ zup C 2 3 0 2 9 < 1 := by rw [zup_ne _ _ _ _ (by omega)]; exact h9
    rw [bacc_2 h22]
    exact bmk (lo := 65) (hi := 70) rfl h9' h4 hy (by decide)
  · refine ⟨65, 70, by decide, fun N => rfl, ⟨by omega, by omega, by omega⟩, fun g R f C y n m e h22 h9 h4 h6 hy => ?_⟩
    have h9' : ¬ zup C 2 3 0 2 9 < 1 := by rw [zup_ne _ _ _ _ (by omega)]; exact h9
    rw [bacc_2 h22]
    exact bmk (lo := 65) (hi := 70) rfl h9' h4 hy (by decide)
  · refine ⟨48, 51, by decide, fun N => rfl, ⟨by omega, by omega, by omega⟩, fun g R f C y n m e h22 h9 h4 h6 hy => ?_⟩
    have h9' : ¬ zup C 2 3 0 2 9 < 1 := by rw [zup_ne _ _ _ _ (by omega)]; exact h9
    rw [bacc_3 h22]
    exact bmk (lo := 48) (hi := 51) rfl h9' h4 hy (by decide)
section BARG
variable {b0 n0 fs : Nat} {S0 : bSt} {M0 : zI} {len : Nat} {tx : Nat → Nat} {g : zG} {f : zI} {R : zRf} {t t0 : zTs} {m k : Nat} {how : Int32}
/-- a letter or a digit is taken, where it may stand there -/
theorem ptake_e {C M : zI} {p k3 lo hi : Nat} (hT : TX len tx C M) (h14 : M 0 14 = nI p) (hs : pskip M = zup M 0 14 (nI k3)) (hk3 : k3 ≤ len) (hlo : 1 ≤ lo ∧ lo ≤ hi ∧ hi ≤ 126) :
    (k3 < len → lo ≤ tx k3 ∧ tx k3 ≤ hi → ptake M (nI lo) (nI hi) = (nI (tx k3 - lo), zup M 0 14 (nI (k3 + 1)))) ∧ (¬ (k3 < len ∧ lo ≤ tx k3 ∧ tx k3 ≤ hi) → ptake M (nI lo) (nI hi) = (0, pfails (zup M 0 14 (nI k3)))) := by
  have hl := hT.1
  have hT' : TX len tx C (zup M 0 14 (nI k3)) := hT.at rfl (zup_ne _ _ _ _ (by omega)) (zup_r (by decide))
  have hph := phere_e hT' (zup_at _ _ _ _) hk3
  unfold ptake
  rw [hs, hph]
  refine ⟨fun q z => ?_, fun q => ?_⟩
  · have h126 := (hT.2.2 k3 q).2.2.2
    have a : nI (tx k3) < nI lo ↔ tx k3 < lo := nI_ltI (by omega) (by omega)
    have b : nI hi < nI (tx k3) ↔ hi < tx k3 := nI_ltI (by omega) (by omega)
    rw [if_pos q, if_neg (fun w => by
      rcases w with w | w
      · have := a.mp w; omega
      · have := b.mp w; omega), zup_at, tn_nI (by omega), (hT.2.2 k3 q).2.1, show nI (tx k3) - nI lo = nI (tx k3 - lo) from ixS rfl rfl z.1]
    unfold patn
    rw [zup_at, zup_zup, show nI k3 + 1 = nI (k3 + 1) from ixA (a := k3) (b := 1) rfl (ixC 1)]
  · by_cases w : k3 < len
    · have h126 := (hT.2.2 k3 w).2.2.2
      have a : nI (tx k3) < nI lo ↔ tx k3 < lo := nI_ltI (by omega) (by omega)
      have b : nI hi < nI (tx k3) ↔ hi < tx k3 := nI_ltI (by omega) (by omega)
      rw [if_pos w, if_pos (by
        by_cases y : tx k3 < lo
        · exact Or.inl (a.mpr y)
        · exact Or.inr (b.mpr (by omega)))]
    · have h0 : (0 : Int32) < nI lo := (nI_ltI (a := 0) (b := lo) (by decide) (by omega)).mpr (by omega)
      rw [if_neg w, if_pos (Or.inl h0)]
/-- where reading has stood, has the reading of blanks the same end -/
theorem pskip_as {C M C2 N : zI} {p k3 : Nat} (hT : TX len tx C M) (h14 : M 0 14 = nI p) (hp : p ≤ len) (hT2 : TX len tx C2 N) (h142 : N 0 14 = nI p) (hs : pskip N = zup N 0 14 (nI k3)) (hk3 : k3 ≤ len) : pskip M = zup M 0 14 (nI k3) := by
  have hl := hT.1
  have e1 := pskip_e hT h14 hp
  have e2 := pskip_e hT2 h142 hp
  rw [hs] at e2
  have e3 := congrFun (congrFun e2 0) 14
  rw [zup_at, zup_at] at e3
  rw [e1, e3]
end BARG
