/-! A run's core: what a step keeps, the focus aside. -/
/-- the run's numbers -/
def CN (X : zCt) (C : zI) : Prop :=
  (C 19 1 = nI (nD X) ∧ C 19 2 = (qM X) 2 8) ∧ (qM X) 2 22 = nI (nV X) ∧ ((qM X) 2 11 = nI (nR X) ∧ C 21 1 = nI (nR X)) ∧ ((qM X) 2 23 = nI (nF X) ∧ C 21 5 = nI (nF X)) ∧ (qM X) 2 21 = nI (nP X) ∧
  (∀ r, r < nR X → C 22 r = (qM X) 2 (3630 + 3 * r + 2)) ∧ (∀ q, q < nF X → C 23 q = (qM X) 2 (7230 + q)) ∧ (C 21 2 = (qM X) 2 12 ∧ C 21 3 = (qM X) 2 13 ∧ C 21 6 = (qM X) 2 14) ∧
  (∃ n, n ≤ 60 ∧ C 17 11 = nI n ∧ (qM X) 2 9 = nI n ∧ ∀ k, k < n → C 24 k = (qM X) 2 (8430 + k)) ∧ ((qM X) 2 10 = bcntP C ∧ ∀ a, a < 6 → C 25 a = (qM X) 2 (24 + a))
def CO (b0 n0 : Nat) (X : zCt) (R : zRf) (C : zI) : Prop :=
  TR b0 n0 (qg X) (qf X) ((qM X) 1) (qt X) ∧ (∀ e, e < nV X → ER1 b0 n0 X e) ∧ (∀ r, r < nR X → RS1 b0 n0 X r) ∧ SK b0 n0 X R ∧ CN X C ∧ (nV X ≤ 1100 ∧ nR X ≤ 1000 ∧ nF X ≤ 1000 ∧ nP X ≤ 39800)
theorem CO.IN {b0 n0 : Nat} {X : zCt} {R : zRf} {C : zI} (h : CO b0 n0 X R C) : IN b0 X := ⟨fun e he => (h.2.1 e he).2.1, fun r hr => (h.2.2.1 r hr).1.2.1⟩
/-- the tables' cells that the core reads -/
def CW2 (j : Nat) : Prop := (7 ≤ j ∧ j ≤ 14) ∨ 21 ≤ j
theorem CO.of {b0 n0 : Nat} {g G : zG} {f F M M' : zI} {t : zTs} {y : zGs} {n : zNs} {R R' : zRf} {C C' : zI} (h : CO b0 n0 (g, f, M, t, y, n) R C) (hx : zXt g G) (hf : ∀ x, x < g.1 → F x = f x)
    (h1 : M' 1 = M 1) (h4 : ∀ k, k < 7 * n.2.2.2.2 → M' 4 k = M 4 k) (hW : ∀ j, CW2 j → M' 2 j = M 2 j) (hR : R' 20 = R 20)
    (hC : C' 19 = C 19 ∧ C' 21 = C 21 ∧ C' 22 = C 22 ∧ C' 23 = C 23 ∧ C' 24 = C 24 ∧ C' 25 = C 25 ∧ C' 17 11 = C 17 11) : CO b0 n0 (G, F, M', t, y, n) R' C' := by
  have hI := h.IN
  have hE : EXT (g, f, M, t, y, n) (G, F, M', t, y, n) := ⟨⟨hx, hf⟩, h4, ⟨h1, rfl⟩, ⟨Nat.le_refl _, Nat.le_refl _, Nat.le_refl _, Nat.le_refl _⟩, fun _ _ => ⟨rfl, rfl⟩, fun _ _ => ⟨rfl, rfl, rfl⟩⟩
  obtain ⟨k1, k2, k3, ⟨k4, k5, k6⟩, ⟨⟨c1, c2⟩, c3, ⟨c4, c5⟩, ⟨c6, c7⟩, c8, c9, c10, ⟨c11, c12, c13⟩, ⟨q, q1, q2, q3, q4⟩, c14, c15⟩, k7⟩ := h
  obtain ⟨e19, e21, e22, e23, e24, e25, e17⟩ := hC
  have w : ∀ j, CW2 j → M' 2 j = M 2 j := hW
  refine ⟨?_, fun e he => ?_, fun r hr => ?_, ⟨k4, ?_, fun p hp => (k6 p hp).ext hE hI (congrFun hR p) rfl (fun _ => rfl)⟩, ⟨⟨by rw [e19]; exact c1, ?_⟩, ?_, ⟨?_, by rw [e21]; exact c5⟩, ⟨?_, by rw [e21]; exact c7⟩, ?_, fun r hr => ?_, fun j hj => ?_, ⟨?_, ?_, ?_⟩, ⟨q, q1, by rw [e17]; exact q2, ?_, fun k hk => ?_⟩, ?_, fun a ha => ?_⟩, k7⟩
  · show TR b0 n0 G F (M' 1) t
    rw [h1]
    exact TR.ext hx (fun x hx _ => hf x hx) (fun x hx k _ => congrFun (hf x hx) k) k1
  · exact (k2 e he).ext hE he (fun j hj => w _ (Or.inr (by omega)))
  · exact (k3 r hr).ext hE hI hr (fun j hj => w _ (Or.inr (by omega)))
  · show M' 2 7 = _; rw [w 7 (Or.inl (by omega))]; exact k5
  · show C' 19 2 = M' 2 8; rw [e19, w 8 (Or.inl (by omega))]; exact c2
  · show M' 2 22 = _; rw [w 22 (Or.inr (by omega))]; exact c3
  · show M' 2 11 = _; rw [w 11 (Or.inl (by omega))]; exact c4
  · show M' 2 23 = _; rw [w 23 (Or.inr (by omega))]; exact c6
  · show M' 2 21 = _; rw [w 21 (Or.inr (by omega))]; exact c8
  · show C' 22 r = M' 2 _; rw [e22, w _ (Or.inr (by omega))]; exact c9 r hr
  · show C' 23 j = M' 2 _; rw [e23, w _ (Or.inr (by omega))]; exact c10 j hj
  · show C' 21 2 = M' 2 12; rw [e21, w 12 (Or.inl (by omega))]; exact c11
  · show C' 21 3 = M' 2 13; rw [e21, w 13 (Or.inl (by omega))]; exact c12
  · show C' 21 6 = M' 2 14; rw [e21, w 14 (Or.inl (by omega))]; exact c13
  · show M' 2 9 = _; rw [w 9 (Or.inl (by omega))]; exact q3
  · show C' 24 k = M' 2 _; rw [e24, w _ (Or.inr (by omega))]; exact q4 k hk
  · show M' 2 10 = bcntP C'; unfold bcntP; rw [e25, w 10 (Or.inl (by omega))]; exact c14
  · show C' 25 a = M' 2 _; rw [e25, w _ (Or.inr (by omega))]; exact c15 a ha
/-! the reference's push, cell by cell -/
theorem ppush_1 {M : zI} {k n e s x : Int32} {r : Nat} (h2 : r ≠ 2) (h4 : r ≠ 4) : ppush M k n e s x r = M r := by
  unfold ppush
  simp only [zup_r h2, zup_r h4]
theorem pdepth_of {M : zI} {d i : Nat} (h7 : M 2 7 = (if d = 0 then -9 else nI i)) (hi : i < 40000) (h6 : ¬ d = 0 → M 4 (7 * i + 6) = nI d) : pdepth M = nI d := by
  unfold pdepth
  by_cases q : d = 0
  · rw [h7, if_pos q, if_pos rfl, q]; rfl
  · rw [h7, if_neg q, if_neg (fun h => by
      have hv := iv_nI (N := 40000) hi (by decide)
      exact hv.nn (by decide) h)]
    unfold pof
    rw [tn_nI (by omega)]
    exact h6 q
