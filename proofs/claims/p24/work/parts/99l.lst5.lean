/-! The listing, in both: what is listed at the load is what the reference lays at any later call. -/
section LST5
variable {b0 n0 : Nat} {g : zG} {f : zI} {t : zTs} {T : Nat → Int32} {R : zRf} {C : zI}
/-- the reference lays so, whatever else it holds -/
def LAY (T : Nat → Int32) (e r0 N : Nat) (B : Nat → Int32) : Prop := ∀ M : zI, (∀ c, c < 5 * e → M 1 c = T c) → M 2 0 = nI r0 → pllV pllf 0 1 0 (play0 M) ∧ (play M).1 = N ∧ ∀ i, i < N → (play M).2 13 i = B i
theorem LAY.of {T T' : Nat → Int32} {e r0 N : Nat} {B B' : Nat → Int32} (h : LAY T e r0 N B) (hT : ∀ c, c < 5 * e → T' c = T c) (hB : ∀ i, i < N → B' i = B i) : LAY T' e r0 N B' := fun M h1 h2 => by
  obtain ⟨a, b, c⟩ := h M (fun c hc => (h1 c hc).trans (hT c hc)) h2
  exact ⟨a, b, fun i hi => (c i hi).trans (hB i hi).symm⟩
theorem LISTS {r0 s : Nat} (hT : TR b0 n0 g f T t) (hW : WTx T t.1 r0 s) (hs : s ≤ 120) :
    llistV g R f C (t.2.1 r0) 1000 ∧ FRl (R, C) (llist g R f C (t.2.1 r0) 1000) ∧ LAY T t.1 r0 (llistN g R f C (t.2.1 r0) 1000) ((llist g R f C (t.2.1 r0) 1000).2 10) := by
  have hr := hW.lt
  have h65 := hT.1
  have l5 : llini C 9 5 = 0 := by unfold llini; rw [zup_ne _ _ _ _ (by omega), zup_at]
  have l1 : llini C 9 1 = 0 := by unfold llini; rw [zup_ne _ _ _ _ (by omega), zup_ne _ _ _ _ (by omega), zup_at]
  have l2 : llini C 9 2 = 0 := by unfold llini; rw [zup_at]
  have lr : ∀ r, r ≠ 9 → llini C r = C r := fun r h => by unfold llini; rw [zup_r h, zup_r h, zup_r h]
  have key : ∀ M : zI, (∀ c, c < 5 * t.1 → M 1 c = T c) → M 2 0 = nI r0 → pllV pllf 0 1 0 (play0 M) ∧ ∃ N, N < 240 ∧ (play M).1 = N ∧ (llist g R f C (t.2.1 r0) 1000).2 9 5 = 0 ∧ LB0 (llist g R f C (t.2.1 r0) 1000).2 (play M).2 N ∧ FRl (R, C) (llist g R f C (t.2.1 r0) 1000) := by
    intro M hM h0
    have hLN : ∀ n, 0 ≤ n → n < t.1 → M 1 (5 * n) = nI 16 ∨ ∃ k, k ≤ 15 ∧ M 1 (5 * n) = nI k ∧ EN b0 n0 g f (M 1) (t.1, t.2) k n := fun n _ hn => by
      rcases hT.2 n hn with h | ⟨k, k1, k2, k3⟩
      · exact Or.inl ((hM _ (by omega)).trans h)
      · exact Or.inr ⟨k, k1, (hM _ (by omega)).trans k2, k3.more k2 k1 hn (by omega) (Nat.le_refl _) hM (fun _ _ => ⟨rfl, rfl, rfl⟩)⟩
    have hW' : WTx (M 1) t.1 r0 s := hW.up (Nat.le_refl _) (Nat.le_refl _) (fun c _ b => hM c b)
    have hP0 : LPl (M 1) t.2.1 0 t.1 (R, llini C) M 0 0 := ⟨l5, trivial, by omega⟩
    obtain ⟨hP, hF⟩ := hP0.node (s := s) (x := r0) (by omega) hW' (Nat.zero_le _)
    rw [show 0 + s = s from Nat.zero_add s] at hP
    have e1 : play0 M = zup M 12 0 (nI r0) := by unfold play0; rw [h0]
    have e92 : (lplan (R, llini C) (some (t.2.1 r0)) 0).2 9 2 = 0 := hF.2.2.2.trans l2
    obtain ⟨a1, N, a2, a3, a4, a5, a6⟩ := LRUN (b0 := b0) (n0 := n0) (g := g) (f := f) (t := t) (e := t.1) (fs := 0) (T := M 1) h65 hLN 1000 _ (zup M 12 0 (nI r0)) 0 1 s (zup_r (by decide)) hP ⟨hF.2.2.1.trans l1, fun i hi => absurd hi (Nat.not_lt_zero i)⟩ (Or.inl e92) (by omega) (fun h => by omega) (by omega) hs
    rw [e92, ← e1] at a1 a3 a5
    have ep : play M = pll 1000 0 1 0 (play0 M) := by unfold play pllf; rfl
    have ev : pllf = 1000 := by unfold pllf; rfl
    have el : llist g R f C (t.2.1 r0) 1000 = lrun g f 1000 (lplan (R, llini C) (some (t.2.1 r0)) 0) := by unfold llist; rfl
    rw [ep, ev, el]
    refine ⟨a1, N, a2, a3, a4, a5, ?_⟩
    exact FRl.tr (S' := (R, llini C)) ⟨fun _ _ => rfl, fun r a _ _ => lr r a⟩ (FRl.tr (S' := lplan (R, llini C) (some (t.2.1 r0)) 0) ⟨hF.1, fun r a _ c => hF.2.1 r a c⟩ a6)
  obtain ⟨-, N, k2, -, k4, k5, k6⟩ := key (zup (fun r c => if r = 1 then T c else 0) 2 0 (nI r0)) (fun c _ => by rw [zup_r (by decide)]; rfl) (zup_at _ _ _ _)
  have eN : llistN g R f C (t.2.1 r0) 1000 = N := by
    unfold llistN
    rw [k5.1, tn_nI (by omega)]
  refine ⟨⟨by decide, by rw [k4]; decide, by rw [eN]; exact k2⟩, k6, fun M h1 h2 => ?_⟩
  obtain ⟨m1, N', m2, m3, m4, m5, -⟩ := key M h1 h2
  obtain rfl : N = N' := (nI_eq (by omega) (by omega)).mp (k5.1.symm.trans m5.1)
  exact ⟨m1, m3.trans eN.symm, fun i hi => (m5.2 i (by omega)).symm⟩
end LST5
