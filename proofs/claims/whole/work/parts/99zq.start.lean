/-! The heap that both constructors leave. -/
theorem zty12 {k : Nat} (h : zty 12 k ≠ 99) : zty 12 k = 13 ∧ ∃ q ∈ rT, q.1 = k := by
  by_cases hk : k < 29
  · exact (show ∀ k, k < 29 → zty 12 k ≠ 99 → zty 12 k = 13 ∧ ∃ q ∈ rT, q.1 = k by decide +kernel) k hk h
  · refine absurd ?_ h
    unfold zty
    rw [if_pos (by decide)]
    rw [List.getD_eq_getElem?_getD, List.getElem?_eq_none (by show 29 ≤ k; omega)]
    rfl
theorem zOK.two {b0 o : Nat} {G g : zG} (h : zOK b0 zNo G) (ho : G.1 = o) (hS : ∀ a, a < o → zSame G g a) (hR : RW b0 g o) (hz : g.1 = o + 20) : zOK b0 zNo g := by
  have hl : zLe G g := ⟨by omega, fun a ha => ⟨(hS a (by omega)).1, (hS a (by omega)).2.1⟩⟩
  have h0 := h.1
  have htag : ∀ a, ¬ a < o → a < o + 20 → a ≠ o → g.2.1 a = 13 := by
    intro a h1 h2 h3
    obtain ⟨q, hq, e⟩ := (show ∀ j, j < 20 → j ≠ 0 → ∃ q ∈ rT, q.2.1 = j by decide +kernel) (a - o) (by omega) (by omega)
    have := (hR.2 q hq).2.1.2.2
    rw [e, show o + (a - o) = a by omega] at this
    exact this
  refine ⟨by omega, fun a k b h1 h2 h3 h4 => ?_, fun a h1 h2 h3 q hq h4 => ?_⟩
  · by_cases ha : a < o
    · obtain ⟨e1, e2, e3⟩ := hS a ha
      rw [e1] at h3 ⊢
      rw [e3] at h4
      exact (h.2.1 a k b h1 (by omega) h3 h4).le hl
    · by_cases hao : a = o
      · subst hao
        rw [hR.1.2.2] at h3 ⊢
        obtain ⟨e, q, hq, rfl⟩ := zty12 h3
        rw [(hR.2 q hq).1] at h4
        cases h4
        rw [e]
        exact (hR.2 q hq).2.1
      · rw [htag a ha (by omega) hao] at h3
        exact absurd rfl h3
  · by_cases ha : a < o
    · obtain ⟨e1, e2, e3⟩ := hS a ha
      rw [e1] at h4
      obtain ⟨b, hb, hn⟩ := h.2.2 a h1 (by omega) (fun z => z) q hq h4
      refine ⟨b, by rw [e3]; exact hb, fun n hn' => ?_⟩
      by_cases hb' : b < o
      · rw [(hS b hb').2.1]; exact hn n hn'
      · have h9 := (show ∀ q ∈ zSh, zty q.1 q.2.1 ≠ 99 by decide +kernel) q hq
        have := (h.2.1 a q.2.1 b h1 (by omega) (by rw [h4]; exact h9) hb).2.1
        omega
    · by_cases hao : a = o
      · subst hao
        rw [hR.1.2.2] at h4
        exact absurd h4.symm ((show ∀ q ∈ zSh, q.1 ≠ 12 by decide +kernel) q hq)
      · rw [htag a ha (by omega) hao] at h4
        exact absurd h4.symm ((show ∀ q ∈ zSh, q.1 ≠ 13 by decide +kernel) q hq)
def g00 (b0 : Nat) : zG := (b0, fun _ => 99, fun _ => 0, fun _ _ => none)
def f00 : zI := fun _ _ => 0
def S00 (b0 : Nat) : zSt := uN (g00 b0, f00) 11 0
def G11 (b0 : Nat) : zSt := kobj (S00 b0) b0
def G12 (b0 : Nat) : zSt := uN (G11 b0) 12 0
theorem S00_1 (b0 : Nat) : (S00 b0).1.1 = b0 + 1 := rfl
theorem S00_t (b0 : Nat) : (S00 b0).1.2.1 b0 = 11 := zu1_at _ _ _
theorem S00_f (b0 k : Nat) : (S00 b0).2 b0 k = 0 := congrFun (zu1_at (fun _ _ => (0 : Int32)) b0 (fun _ => 0)) k
theorem zOK.g00 (b0 : Nat) : zOK b0 zNo (g00 b0) := by
  refine ⟨Nat.le_refl _, fun a k b h1 h2 => ?_, fun a h1 h2 => ?_⟩
  · have h2 : a < b0 := h2
    omega
  · have h2 : a < b0 := h2
    omega
theorem H_X11 {l : Launch} {d : Nat} {D : zD} (b0 : Nat) (hd : 3 ≤ d) : zM l d D b0 mX11_init [.ref b0] (S00 b0).1 (S00 b0).2 (fun r g f mc ms => r = none ∧ mc ≤ 26 ∧ ms ≤ 6782 ∧ g = (G11 b0).1 ∧ f = (G11 b0).2 ∧ zOK b0 zNo (G11 b0).1) := by
  have hw : zOK b0 (fun y => y = b0) (S00 b0).1 := (zOK.g00 b0).newX.mono (fun a h => h.elim (fun q => q.elim) (fun q => q))
  have ha : zIn b0 (S00 b0).1 b0 11 := zIn.self (g := g00 b0) (Nat.le_refl _)
  refine (K_X11_init hw b0 ha rfl hd).mono (fun r g f mc ms h => ?_)
  obtain ⟨hr, hc, hs, -, hok, S1, S2, S4, e1, e2, e4, e5⟩ := h
  have e : (g, f) = G11 b0 := by
    rw [e5, e4, e2, e1]
    rfl
  have eg : g = (G11 b0).1 := congrArg Prod.fst e
  have ef : f = (G11 b0).2 := congrArg Prod.snd e
  subst eg
  exact ⟨hr, hc, hs, rfl, ef, ob_OK (S00_1 b0) (Nat.le_refl _) (S00_t b0) hok⟩
theorem G11_C (b0 j k : Nat) (hj : j < 27) : (G11 b0).2 (b0 + j) k = 0 := by
  have h := S00_1 b0
  have hjs : j = 0 ∨ j = 1 ∨ j = 2 ∨ j = 3 ∨ j = 4 ∨ j = 5 ∨ j = 6 ∨ j = 7 ∨ j = 8 ∨ j = 9 ∨ j = 10 ∨ j = 11 ∨ j = 12 ∨ j = 13 ∨ j = 14 ∨ j = 15 ∨ j = 16 ∨ j = 17 ∨ j = 18 ∨ j = 19 ∨ j = 20 ∨ j = 21 ∨ j = 22 ∨ j = 23 ∨ j = 24 ∨ j = 25 ∨ j = 26 := by omega
  rcases hjs with rfl | rfl | rfl | rfl | rfl | rfl | rfl | rfl | rfl | rfl | rfl | rfl | rfl | rfl | rfl | rfl | rfl | rfl | rfl | rfl | rfl | rfl | rfl | rfl | rfl | rfl | rfl
  · exact ob_f0 h (S00_f b0)
  · exact ob_f1 h
  · exact ob_f2 h
  · exact ob_f3 h
  · exact ob_f4 h
  · exact ob_f5 h
  · exact ob_f6 h
  · exact ob_f7 h
  · exact ob_f8 h
  · exact ob_f9 h
  · exact ob_f10 h
  · exact ob_f11 h
  · exact ob_f12 h
  · exact ob_f13 h
  · exact ob_f14 h
  · exact ob_f15 h
  · exact ob_f16 h
  · exact ob_f17 h
  · exact ob_f18 h
  · exact ob_f19 h
  · exact ob_f20 h
  · exact ob_f21 h
  · exact ob_f22 h
  · exact ob_f23 h
  · exact ob_f24 h
  · exact ob_f25 h
  · exact ob_f26 h
theorem G11_1 (b0 : Nat) : (G11 b0).1.1 = b0 + 27 := ob_z5 (S00_1 b0)
theorem H_X12 {l : Launch} {d : Nat} {D : zD} (b0 : Nat) (hd : 1 ≤ d) (hok : zOK b0 zNo (G11 b0).1) : zM l d D b0 mX12_init [.ref (b0 + 27)] (G12 b0).1 (G12 b0).2 (fun r g f mc ms => r = none ∧ mc = 19 ∧ ms = 1390630 ∧ JS b0 (b0 + 47) b0 (b0 + 27) 0 g f ∧ f b0 1 = 0) := by
  have hz := G11_1 b0
  have h := S00_1 b0
  have hCW : CW b0 (G11 b0).1 b0 := ob_CW h (Nat.le_refl _) (S00_t b0)
  have hin : zIn b0 (G12 b0).1 (b0 + 27) 12 := by
    have := zIn.self (b0 := b0) (g := (G11 b0).1) (t := 12) (n := 0) (by omega)
    rw [hz] at this
    exact this
  have h0 : RWk b0 (G12 b0).1 (b0 + 27) 0 := ⟨hin, by show (G11 b0).1.1 + 1 = _; rw [hz], fun q hq => by cases hq⟩
  have hf : (G12 b0).2 (b0 + 27) = fun _ => 0 := by
    show zu1 (G11 b0).2 (G11 b0).1.1 (fun _ => 0) (b0 + 27) = _
    rw [hz]; exact zu1_at _ _ _
  refine (T_X12_init h0 hf hd).mono (fun r g f mc ms q => ?_)
  obtain ⟨hr, hRW, hg1, hf', hS, hc, hs⟩ := q
  refine ⟨hr, hc, hs, ?_⟩
  have hS' : ∀ a, a < b0 + 27 → zSame (G11 b0).1 g a := fun a ha => by
    refine zSame.tr (g1 := (G12 b0).1) ⟨zu1_ne _ _ _ (by omega), zu1_ne _ _ _ (by omega), zu1_ne _ _ _ (by omega)⟩ (hS a ha)
  have hOK : zOK b0 zNo g := hok.two hz hS' hRW (by omega)
  have hl : zLe (G11 b0).1 g := ⟨by omega, fun a ha => ⟨(hS' a (by omega)).1, (hS' a (by omega)).2.1⟩⟩
  have hR : ∀ j, j < 27 → g.2.2.2 (b0 + j) = (G11 b0).1.2.2.2 (b0 + j) := fun j hj => (hS' (b0 + j) (by omega)).2.2
  have hC : ∀ j k, j < 27 → f (b0 + j) k = 0 := fun j k hj => by
    rw [hf', rv_out (by omega)]
    show zu1 (G11 b0).2 (G11 b0).1.1 (fun _ => 0) (b0 + j) k = 0
    rw [zu1_ne _ _ _ (by omega)]
    exact G11_C b0 j k hj
  have hgv : gv b0 g (fun j => g.2.2.2 (b0 + bP j)) = g := gv_self (fun j hj => rfl)
  refine ⟨⟨g, fun j => g.2.2.2 (b0 + bP j), f, fun j => f (b0 + bP j), pinit, t00, y00, n00, ⟨hgv.symm, (cv_self (fun j hj => rfl)).symm⟩, ⟨hCW.le hl, ?_, by rw [hgv]; exact hOK⟩, ⟨by rw [hgv]; exact hRW, by omega, by omega, fun j hj => by rw [hf']; exact rv_at hj⟩, ?_⟩, hC 0 1 (by decide)⟩
  · refine (ob_CF h).of (fun q hq => ?_)
    exact congrFun (hR (bP q.1) (bP_lt ((show ∀ q ∈ bF, q.1 < 27 by decide) q hq))) q.2.1
  · refine WR0 (by omega) (by omega) (by omega) (fun x x0 x1 => ?_) ?_ ?_ (fun p hp => ?_) (fun i hi => ?_) (fun j k hj => hC (bP j) k (bP_lt hj))
    · by_cases hx : x < b0 + 27
      · rw [(hS' x hx).1]
        obtain ⟨j, rfl, hj⟩ : ∃ j, x = b0 + bP j ∧ j < 27 := ⟨bQ (x - b0), by rw [bPQ (by omega)]; omega, bQ_lt (by omega)⟩
        cases hb : bT[j]? with
        | none => exact absurd (List.getElem?_eq_none_iff.mp hb) (by show ¬ 27 ≤ j; omega)
        | some q =>
          rw [(hCW.2.2 j q hb).1]
          exact (show ∀ q ∈ bT, q.1 ≠ 1 by decide) q (List.mem_of_getElem? hb)
      · by_cases hxo : x = b0 + 27
        · rw [hxo, hRW.1.2.2]; decide
        · obtain ⟨q, hq, e⟩ := (show ∀ j, j < 20 → j ≠ 0 → ∃ q ∈ rT, q.2.1 = j by decide +kernel) (x - (b0 + 27)) (by omega) (by omega)
          have := (hRW.2 q hq).2.1.2.2
          rw [e, show b0 + 27 + (x - (b0 + 27)) = x by omega] at this
          rw [this]; decide
    · show g.2.2.2 (b0 + 8) 0 = none
      rw [hR 8 (by decide)]; exact ob_n8 h
    · show g.2.2.2 (b0 + 13) 0 = none
      rw [hR 13 (by decide)]; exact ob_n13 h (by decide) (by decide) (by decide) (by decide) (by decide) (by decide)
    · show g.2.2.2 (b0 + 14) p = none
      rw [hR 14 (by decide)]; exact ob_n14 h
    · show g.2.2.2 (b0 + 26) i = none
      rw [hR 26 (by decide)]; exact ob_n26 h
