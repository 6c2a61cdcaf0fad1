/-! A step from a value: the frame on top is popped. -/
theorem CO.pop {b0 n0 : Nat} {g : zG} {f M : zI} {t : zTs} {sg rg mz fi : Nat → Nat} {el : Nat → Nat → Prop} {ci : Nat → Nat → Nat} {D nv nr nf np : Nat} {R : zRf} {C : zI}
    (hC : CO b0 n0 (g, f, M, t, (sg, el, rg, ci, mz, fi), (D + 1, nv, nr, nf, np)) R C) (hB : BO b0 n0 (g, f, M, t, (sg, el, rg, ci, mz, fi), (D + 1, nv, nr, nf, np)) R) :
    ∃ x κ, R 20 D = some x ∧ M 2 7 = nI (fi D) ∧ bbelow C R 0 = some x ∧ bpopC C = zup C 19 1 (nI D) ∧ (fi D < np ∧ n0 ≤ x ∧ zIn b0 g x 2 ∧ pcl1 M 4 (7 * fi D) = nI κ ∧ f x 0 = nI κ ∧ FK (g, f, pcl1 M, t, (sg, el, rg, ci, mz, fi), (D, nv, nr, nf, np)) κ (fi D) x) ∧ 1 ≤ κ ∧ κ ≤ 14 ∧
      CO b0 n0 (g, f, pcl1 M, t, (sg, el, rg, ci, mz, fi), (D, nv, nr, nf, np)) R (zup C 19 1 (nI D)) ∧ BO b0 n0 (g, f, pcl1 M, t, (sg, el, rg, ci, mz, fi), (D, nv, nr, nf, np)) R ∧ ∀ j, j ≠ 7 → pcl1 M 2 j = M 2 j := by
  have hd : D + 1 ≤ 100 := hC.2.2.2.1.1
  have hnp : np ≤ 39800 := hC.2.2.2.2.2.2.2.2
  have d1 : C 19 1 = nI (D + 1) := hC.2.2.2.2.1.1.1
  obtain ⟨x, x1, x2, x3, x4⟩ := hC.2.2.2.1.2.2 D (Nat.lt_succ_self D)
  have x4 : M 4 (7 * fi D + 5) = (if D = 0 then -9 else nI (fi (D - 1))) := x4
  have hi : fi D < np := x2.1
  have h7 : M 2 7 = nI (fi D) := hC.2.2.2.1.2.1.trans (if_neg (Nat.succ_ne_zero D))
  have hp : pcl1 M = zup M 2 7 (if D = 0 then -9 else nI (fi (D - 1))) := by
    unfold pcl1
    rw [h7, show (5 : Int32) = nI 5 from rfl, pof_n (by omega) (by decide), x4]
  have hCp := hC.popTo D (Nat.le_succ D)
  rw [← hp] at hCp
  have r1 : pcl1 M 1 = M 1 := by rw [hp]; exact zup_r (by decide)
  have r4 : pcl1 M 4 = M 4 := by rw [hp]; exact zup_r (by decide)
  have r2 : ∀ j, j ≠ 7 → pcl1 M 2 j = M 2 j := fun j hj => by rw [hp]; exact zup_ne _ _ _ _ (Or.inr hj)
  have hE : EXT (g, f, M, t, (sg, el, rg, ci, mz, fi), (D + 1, nv, nr, nf, np)) (g, f, pcl1 M, t, (sg, el, rg, ci, mz, fi), (D, nv, nr, nf, np)) := ⟨⟨zXt.rf, fun _ _ => rfl⟩, fun j _ => congrFun r4 j, ⟨r1, rfl⟩, ⟨Nat.le_refl _, Nat.le_refl _, Nat.le_refl _, Nat.le_refl _⟩, fun _ _ => ⟨rfl, rfl⟩, fun _ _ => ⟨rfl, rfl, rfl⟩⟩
  obtain ⟨y1, y2, y3, κ, y4, y5, y6, y7, y8⟩ := x2.ext hE hC.IN
  have e1 : nI (D + 1) - 1 = nI D := (ixS (a := D + 1) (b := 1) rfl (ixC 1) (by omega)).trans (congrArg nI (by omega))
  refine ⟨x, κ, x1, h7, ?_, ?_, ⟨hi, y2, y3, y6, y7, y8⟩, y4, y5, hCp, hB.ext hE (fun j hj => r2 j (by omega)) rfl rfl, r2⟩
  · unfold bbelow
    rw [d1, e1, if_pos ⟨by decide, nI_lt (a := 0) (by omega) (by omega)⟩, show nI D - 0 = nI D from (ixS (a := D) (b := 0) rfl (ixC 0) (by omega)), tn_nI (by omega)]
    exact x1
  · unfold bpopC
    rw [d1, if_pos (show (0 : Int32) < nI (D + 1) from nI_lt (a := 0) (b := D + 1) (by omega) (by omega)), e1]
theorem pcloses_1 {M : zI} (h : (pcomes (pcl1 M) (M 2 7) (pcl1 M 2 20)).1 = 1) : pcloses M = (1, (pcomes (pcl1 M) (M 2 7) (pcl1 M 2 20)).2) := by
  unfold pcloses
  simp only
  rw [h, if_neg (by decide), zupR_self rfl]
theorem pcloses_0 {M : zI} (h : (pcomes (pcl1 M) (M 2 7) (pcl1 M 2 20)).1 = 0) : pcloses M = (0, zup (pcomes (pcl1 M) (M 2 7) (pcl1 M 2 20)).2 2 7 (M 2 7)) := by
  unfold pcloses
  simp only
  rw [h, if_pos rfl]
