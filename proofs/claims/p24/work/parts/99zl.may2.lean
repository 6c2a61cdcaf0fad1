/-! may, in both: its answer. -/
section MAYD
variable {b0 n0 c k : Nat} {g : zG} {f M : zI} {t : zTs} {y : zGs} {n : zNs} {R : zRf} {C : zI}
theorem rk_s (R : zRf) (k : Nat) : rk R (k + 1) = R 18 k := by
  unfold rk
  rw [if_neg (by omega)]; rfl
theorem WR.mayV (h : WR b0 n0 c k (g, R, f, C) M t y n) (hk : 120 * k ≤ 64800) : pallV M ∧ (∀ k, k < 4 → BAo b0 g c (R 18 k)) ∧ BAo b0 g c (R 17 0) := by
  have h65 : t.1 ≤ 65000 := by
    have := h.2.2.1.1.2
    omega
  obtain ⟨hC, hB, hcov, hlen, hBK, hE⟩ := h.mcx h65
  have hTR : TR b0 n0 g f (M 1) t := h.2.2.2.1.1.base.1.1
  have hEO : EO b0 g c := EOs.EO h.1.2.1
  have hcn : c + 27 ≤ n0 := h.1.1.1
  have hBA : ∀ k, k < 5 → BAo b0 g c (rk R k) := fun k hk b hb => by
    rcases hBK k hk with z | ⟨r0, a, z1, z2, z3, z4, z5, z6, z7⟩
    · rw [z.2] at hb; cases hb
    · obtain rfl : a = b := Option.some.inj (z4.symm.trans hb)
      obtain ⟨e, A, kk, ⟨⟨e1, e4⟩, e2, e3⟩, ⟨a1, a2, a3, a4, a5⟩, h1, h2, h3⟩ := z7
      rw [pA_eq a1]
      refine ⟨a1, a3, rfl, by omega, by omega, fun i hi => ?_⟩
      obtain ⟨m, m1, m2, m3, m4⟩ := h1 i (by omega)
      rw [pA_eq m4]
      refine ⟨m4, hEO _ ?_⟩
      rcases hTR.2 m (by omega) with w | ⟨κ, w1, w2, w3⟩
      · exact absurd w m3
      · exact w3.1.2.1
  refine ⟨fun k hk h9 => ?_, fun k hk => by rw [← rk_s R]; exact hBA (k + 1) (by omega), hBA 0 (by decide)⟩
  rcases hBK k hk with z | ⟨r0, a, z1, z2, z3, z4, z5, z6, z7⟩
  · exact absurd z.1 h9
  · obtain ⟨e, A, kk, ⟨⟨e1, e4⟩, e2, e3⟩, -⟩ := z7
    rw [z2, tn_nI (by omega), e3, tn_nI (by omega)]
    refine ⟨iv_nI (by omega) (by decide), iv_nI (by omega) (by decide), by omega, fun m m1 m2 => ?_⟩
    refine (hC.1 m (mLs_mem.mpr ⟨k, hk, mLk_mem.mpr ⟨h9, ?_⟩⟩)).pnV
    rw [z2, tn_nI (by omega), e3, tn_nI (by omega)]
    exact ⟨m1, m2⟩
theorem WR.may (h : WR b0 n0 c k (g, R, f, C) M t y n) (hk : 120 * k ≤ 64800) (p a v : Int32) :
    pmayV M ∧ (¬ (p < -1 ∨ 3 < p) → ¬ proot M p = -9 → iv 65000 (proot M p)) ∧ gfixV g R 39000 (gclear g R f) ∧ (bmay g R f 39000 p a v).1 = (pmay M p a v).1 ∧ FEQ g f (bmay g R f 39000 p a v).2 ∧ WR b0 n0 c (k + 1) (g, R, (bmay g R f 39000 p a v).2, C) (pmay M p a v).2 t y n := by
  have h65 : t.1 ≤ 65000 := by
    have := h.2.2.1.1.2
    omega
  obtain ⟨v1, -, -⟩ := h.mayV hk
  obtain ⟨hC, hB, hcov, hlen, hBK, hE⟩ := h.mcx h65
  obtain ⟨m1, m2, m3, m4, m5⟩ := MAYS hC (fun k hk => by rw [← rk_s R]; exact hB (k + 1) (by omega)) (hB 0 (by decide)) hcov hlen (fun k hk h9 m a b => mLs_mem.mpr ⟨k, hk, mLk_mem.mpr ⟨h9, a, b⟩⟩) (fun m hm => by
    obtain ⟨k, k1, k2⟩ := mLs_mem.mp hm
    exact ⟨k, k1, mLk_mem.mp k2⟩)
  have hW := h.mayW hk m3 m4
  obtain ⟨F, eF⟩ : ∃ F, F = gfix g R 39000 (gclear g R f) := ⟨_, rfl⟩
  obtain ⟨N, eN⟩ : ∃ N, N = pmayM M := ⟨_, rfl⟩
  have hroot : ¬ (p < -1 ∨ 3 < p) → ∃ k, k < 5 ∧ proot M p = M 2 k ∧ (if p = -1 then R 17 0 else R 18 (tn p)) = rk R k := fun hp => by
    unfold proot
    by_cases q : p = -1
    · rw [if_pos q, if_pos q]
      exact ⟨0, by decide, rfl, rfl⟩
    · have hp4 : iv 4 p := iv_of (n := 3) (by decide) (fun z => z.elim (fun z => zpm1 hp q z) (fun z => hp (Or.inr z)))
      have := hp4.1
      rw [if_neg q, if_neg q]
      exact ⟨tn p + 1, by omega, by rw [Nat.add_comm], by rw [rk_s]⟩
  refine ⟨⟨v1, m1⟩, fun hp h9 => ?_, m2, ?_⟩
  · obtain ⟨k, k1, k2, -⟩ := hroot hp
    rw [k2] at h9 ⊢
    rcases hBK k k1 with z | ⟨r0, a', z1, z2, -⟩
    · exact absurd z.1 h9
    · rw [z2]; exact iv_nI (by omega) (by decide)
  · by_cases hg : (p < -1 ∨ 3 < p) ∨ (a < 0 ∨ 5 < a) ∨ (v < 0 ∨ 3 < v)
    · rw [bmay_b (fun z => may_args.mp z hg), show pmay M p a v = (-1, M) from if_pos hg]
      exact ⟨rfl, FEQ.rf, h.same hk⟩
    · have hg2 := may_args.mpr hg
      obtain ⟨k, k1, k2, k3⟩ := hroot (fun z => hg (Or.inl z))
      rcases hBK k k1 with z | ⟨r0, b, z1, z2, z3, z4, z5, z6, z7⟩
      · rw [bmay_n hg2 (k3.trans z.2), show pmay M p a v = (-2, M) from (if_neg hg).trans (if_pos (k2.trans z.1))]
        exact ⟨rfl, FEQ.rf, h.same hk⟩
      · have h9 : ¬ proot M p = -9 := by rw [k2, z2]; exact (iv_nI (N := 65000) (by omega) (by decide)).nn (by decide)
        rw [bmay_s hg2 (k3.trans z4), show pmay M p a v = (((pmayM M 14 (tn (proot M p))) >>> ((4 * a + v) &&& 31)) &&& 1, pmayM M) from (if_neg hg).trans (if_neg h9), k2, z2, tn_nI (by omega), pA_eq z6]
        have hm : r0 ∈ mLs M := mLs_mem.mpr ⟨k, k1, mLk_mem.mpr ⟨by rw [← k2]; exact h9, by
          obtain ⟨e, A, kk, ⟨⟨e1, e4⟩, e2, e3⟩, -⟩ := z7
          rw [z2, tn_nI (by omega), e3, tn_nI (by omega)]
          exact ⟨Nat.le_refl _, e1⟩⟩⟩
        rw [m5 r0 hm z3]
        rw [← eF] at hW m3 ⊢
        refine ⟨?_, m3, hW⟩
        have ha : iv 6 a := iv_of (n := 5) (by decide) (fun z => hg (Or.inr (Or.inl z)))
        have hv : iv 4 v := iv_of (n := 3) (by decide) (fun z => hg (Or.inr (Or.inr z)))
        rw [ha.2, hv.2]
        exact may_bit ha.1 hv.1
end MAYD
