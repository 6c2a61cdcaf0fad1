/-! What bounds the class's counts, kept by a step; what a step costs. -/
/-- how often resumptions were used, the stamps of searches: bounded by b -/
def CS (s : Nat) (C : zI) : Prop := C 13 4 = nI s ∧ ∀ r, ∃ u, u ≤ s ∧ C 16 r = nI u
def KU (b : Nat) (C : zI) : Prop := (∀ r, ∃ u, u ≤ b ∧ C 22 r = nI u) ∧ ∃ s, s ≤ b ∧ CS s C
theorem KU.mono {b b' : Nat} {C : zI} (h : KU b C) (k : b ≤ b') : KU b' C := by
  obtain ⟨h1, s, h2, h3⟩ := h
  exact ⟨fun r => by obtain ⟨u, a, e⟩ := h1 r; exact ⟨u, by omega, e⟩, s, by omega, h3⟩
theorem KU.of {b : Nat} {C D : zI} (h : KU b C) (e22 : D 22 = C 22) (e13 : D 13 = C 13) (e16 : D 16 = C 16) : KU b D := by
  unfold KU CS
  rw [e22, e13, e16]; exact h
theorem KU.z {b k j : Nat} {x : Int32} {C : zI} (h : KU b C) (h1 : k ≠ 22) (h2 : k ≠ 13) (h3 : k ≠ 16) : KU b (zup C k j x) := h.of (zup_r (Ne.symm h1)) (zup_r (Ne.symm h2)) (zup_r (Ne.symm h3))
theorem KU.z22 {b b' j : Nat} {x : Int32} {C : zI} (h : KU b C) (hb : b ≤ b') (hx : ∃ u, u ≤ b' ∧ x = nI u) : KU b' (zup C 22 j x) := by
  obtain ⟨h1, s, h2, h3⟩ := h
  refine ⟨fun r => ?_, s, by omega, ?_⟩
  · by_cases e : r = j
    · subst e; rw [zup_at]; exact hx
    · rw [zup_ne _ _ _ _ (Or.inr e)]
      obtain ⟨u, a, e⟩ := h1 r
      exact ⟨u, by omega, e⟩
  · unfold CS
    rw [zup_r (by decide), zup_r (by decide)]; exact h3
theorem KU.newRes {b : Nat} {C : zI} (h : KU b C) : KU b (bnewRes C) := by
  have h1 : KU b (bst C 22 (C 21 1) 0) := by
    unfold bst
    split
    · exact h.z22 (Nat.le_refl _) ⟨0, Nat.zero_le _, rfl⟩
    · exact h
  exact h1.z (by decide) (by decide) (by decide)
theorem KU.use {b a : Nat} {C f : zI} (h : KU b C) : KU (b + 1) (buse C f a) := by
  have h1 : KU b (zup C 21 2 (C 21 2 + 1)) := h.z (by decide) (by decide) (by decide)
  unfold buse
  simp only
  split
  · obtain ⟨u, u1, u2⟩ := h1.1 (tn (f a 0))
    have h2 : KU (b + 1) (zup (zup C 21 2 (C 21 2 + 1)) 22 (tn (f a 0)) (zup C 21 2 (C 21 2 + 1) 22 (tn (f a 0)) + 1)) :=
      h1.z22 (Nat.le_succ _) ⟨u + 1, by omega, by rw [u2]; exact ixA (a := u) (b := 1) rfl (ixC 1)⟩
    split
    · exact h2.z (by decide) (by decide) (by decide)
    · exact h2
  · exact h1.mono (Nat.le_succ _)
theorem CS.visit {s : Nat} {C : zI} {R : zRf} {g : zG} {f : zI} {r : Option Nat} (h : CS s C) : CS s (bvisit C R g f r).1 := by
  cases r with
  | none => exact h
  | some a =>
    by_cases q : ¬ 0 < buses C f (some a) ∧ C 13 2 < 1000 ∧ kplace (f a 0) ∧ ¬ C 16 (tn (f a 0)) = C 13 4
    · rw [bvisit_t q.1 q.2.1 q.2.2.1 q.2.2.2]
      refine ⟨?_, fun r => ?_⟩
      · unfold bvisC
        dsimp only
        rw [zup_ne _ _ _ _ (by omega), zup_r (by decide), zup_r (by decide)]; exact h.1
      · unfold bvisC
        dsimp only
        rw [zup_r (by decide), zup_r (by decide)]
        by_cases e : r = tn (f a 0)
        · subst e; rw [zup_at]; exact ⟨s, Nat.le_refl _, h.1⟩
        · rw [zup_ne _ _ _ _ (Or.inr e)]; exact h.2 r
    · rw [bvisit_f q]; exact h
theorem CS.of {s : Nat} {C D : zI} (h : CS s C) (e13 : D 13 4 = C 13 4) (e16 : D 16 = C 16) : CS s D := by
  unfold CS
  rw [e13, e16]; exact h
theorem CS.fs {s : Nat} {g : zG} {f : zI} : ∀ (j : Nat) (C : zI) (R : zRf), CS s C → CS s (bfs g f j C R).2.1 := by
  intro j
  induction j with
  | zero => intro C R h; exact h
  | succ j ih =>
    intro C R h
    have hB : CS s (bfsB C) := h.of (zup_ne _ _ _ _ (by omega)) (zup_r (by decide))
    unfold bfs
    split
    · exact h
    · split
      · exact ih _ _ (h.of (zup_ne _ _ _ _ (by omega)) (zup_r (by decide)))
      · split
        · exact hB
        · split
          · exact ih _ _ hB.visit
          · exact ih _ _ hB
theorem KU.first {b : Nat} {g : zG} {f C : zI} {R : zRf} {r : Option Nat} (h : KU b C) : KU (b + 1) (bfirst g f C R r).2.1 := by
  obtain ⟨h1, s, h2, h3⟩ := h
  have e0 : CS (s + 1) (bfst0 C) := by
    refine ⟨?_, fun r => ?_⟩
    · show zup (zup C 13 4 (C 13 4 + 1)) 13 2 0 13 4 = _
      rw [zup_ne _ _ _ _ (by omega), zup_at, h3.1]
      exact ixA (a := s) (b := 1) rfl (ixC 1)
    · show ∃ u, u ≤ s + 1 ∧ zup (zup C 13 4 _) 13 2 0 16 r = nI u
      rw [zup_r (by decide), zup_r (by decide)]
      obtain ⟨u, a, e⟩ := h3.2 r
      exact ⟨u, by omega, e⟩
  refine ⟨fun r => ?_, s + 1, by omega, CS.fs _ _ _ e0.visit⟩
  rw [bfirst_r (by decide) (by decide) (by decide)]
  obtain ⟨u, a, e⟩ := h1 r
  exact ⟨u, by omega, e⟩
theorem KU.push {b : Nat} {C : zI} (h : KU b C) : KU b (bpushC C) := h.of (bpushC_r (by decide)) (bpushC_r (by decide)) (bpushC_r (by decide))
theorem KU.pop {b : Nat} {C : zI} (h : KU b C) : KU b (bpopC C) := h.of (bpopC_r (by decide)) (bpopC_r (by decide)) (bpopC_r (by decide))
theorem KU.newFin {b : Nat} {C : zI} (h : KU b C) : KU b (bnewFin C) := h.of (bnewFin_r (by decide) (by decide)) (bnewFin_r (by decide) (by decide)) (bnewFin_r (by decide) (by decide))
theorem KU.exec {b : Nat} {C : zI} {x : Int32} (h : KU b C) : KU b (bexec C x) := h.of (bexec_r (by decide) (by decide)) (bexec_r (by decide) (by decide)) (bexec_r (by decide) (by decide))
theorem KU.fin {b : Nat} {C : zI} {R : zRf} (h : KU b C) : KU b (bend C R) := by
  unfold bend
  repeat' split
  all_goals first
    | exact h
    | exact h.z (by decide) (by decide) (by decide)
theorem KU.cap {b p n : Nat} {g : zG} {R : zRf} {f C : zI} (h : KU b C) : KU b (bcap g R f C p n).2.2.2 := (KU.newRes (h.z (by decide) (by decide) (by decide))).push
theorem KU.perfo {b dp : Nat} {g : zG} {R : zRf} {f C : zI} {x : Int32} (h : KU b C) : KU b (bperf g R f C x dp).2.2.2 := by
  have h1 : KU b (bpc C x) := h.of (bpc_r (by decide)) (bpc_r (by decide)) (bpc_r (by decide))
  unfold bperf
  split
  · exact (h1.z (by decide) (by decide) (by decide)).z (by decide) (by decide) (by decide)
  · exact KU.cap (g := g) (R := R) (f := f) (p := tn (bphA g f (R 20) x dp 0)) (n := dp - tn (bphA g f (R 20) x dp 0)) h1
theorem KU.exe {b x : Nat} {g : zG} {R : zRf} {f C : zI} (h : KU b C) : KU b (bexe g R f C x).2.2.2 := (KU.exec h).push
theorem KU.goat {b x e : Nat} {g : zG} {R : zRf} {f C : zI} (h : KU b C) : KU b (bgoat g R f C x e).2.2.2 := by
  unfold bgoat bg1 bg3 bg5 bg9 bcall bleave bemit
  repeat' split
  all_goals first
    | exact h
    | exact h.push
    | exact h.exe
    | exact h.z (by decide) (by decide) (by decide)
    | exact (h.z (by decide) (by decide) (by decide)).z (by decide) (by decide) (by decide)
theorem KU.resu {b : Nat} {g : zG} {R : zRf} {f C : zI} {r : Option Nat} (h : KU b C) : KU (b + 1) (bresu g R f C r).2 := by
  cases r with
  | none => exact h.mono (Nat.le_succ _)
  | some a =>
    by_cases q : 100 < C 19 1 + (nI (bresuN g a) - 1)
    · rw [bresu_t q]; exact h.mono (Nat.le_succ _)
    · rw [bresu_f q]
      have h1 : KU (b + 1) (buse (bpopC C) f a) := h.pop.use
      obtain ⟨k, -⟩ := bresG_r (g := g) (a := pA g a 1) (R := R) (C := buse (bpopC C) f a) (bresuN g a)
      exact h1.of (k 22 (by decide)) (k 13 (by decide)) (k 16 (by decide))
theorem KU.lcl {b x : Nat} {g : zG} {R : zRf} {f C : zI} (h : KU b C) : KU (b + 1) (blcl g R f C x).2.2.2 := by
  have h1 : KU (b + 1) (bfirst g f C R (g.2.2.2 x 4)).2.1 := h.first
  cases hq : (bfirst g f C R (g.2.2.2 x 4)).1 with
  | none => rw [(blcl_n rfl hq).1]; exact h1.pop
  | some y =>
    by_cases k : 100 < (bfirst g f C R (g.2.2.2 x 4)).2.1 19 1 + 1
    · rw [(blcl_t rfl hq k).1]; exact h1
    · rw [(blcl_f rfl hq k).1]; exact h1.exe
theorem KU.step {b k dp : Nat} {g : zG} {R : zRf} {f C : zI} (h : KU b C) : KU (b + 1) (bstep g R f C k dp).2.2.2 := by
  have h0 : KU (b + 1) (bstep0 g R f C k dp).1.2.2.2 := by
    cases q : R 17 4 with
    | none =>
      rw [bstep0_n q]
      cases bbelow C R 0 with
      | none => exact h.mono (Nat.le_succ _)
      | some x =>
        unfold bout
        simp only
        repeat' split
        all_goals first
          | exact h.resu
          | exact h.lcl
          | exact (h.pop.z (by decide) (by decide) (by decide)).mono (Nat.le_succ _)
          | exact h.pop.perfo.mono (Nat.le_succ _)
          | exact h.pop.goat.mono (Nat.le_succ _)
    | some e =>
      rw [bstep0_s q]
      refine KU.mono (b := b) ?_ (Nat.le_succ _)
      unfold binto
      repeat' split
      all_goals first
        | exact h
        | exact h.z (by decide) (by decide) (by decide)
        | exact h.newFin.push
        | exact h.push
  unfold bstep bfin
  split
  · exact h0.z (by decide) (by decide) (by decide)
  · exact (h0.z (by decide) (by decide) (by decide)).fin
/-! the deepest -/
theorem DM.z {C : zI} {k j : Nat} {x : Int32} (h : DM C) (hk : k ≠ 19) : DM (zup C k j x) := h.of (zup_r (Ne.symm hk))
theorem DM.exec {C : zI} {a : Nat} {x : Int32} (h : DM C) (ha : C 19 1 = nI a) (ha2 : a < 1000) : DM (bpushC (bexec C x)) :=
  (h.of (bexec_r (by decide) (by decide))).push (a := a) (by rw [bexec_r (by decide) (by decide)]; exact ha) ha2
theorem DM.fin {C : zI} {R : zRf} (h : DM C) : DM (bend C R) := by
  refine h.of ?_
  unfold bend
  repeat' split
  all_goals first
    | rfl
    | exact zup_r (by decide)
theorem DM.pop {C : zI} {d : Nat} (h : DM C) (hC : C 19 1 = nI d) (hd : d ≤ 100) : DM (bpopC C) ∧ bpopC C 19 1 = nI (d - 1) := by
  by_cases q : d = 0
  · subst q
    have e : bpopC C = C := by unfold bpopC; rw [hC]; exact if_neg (by decide)
    rw [e]; exact ⟨h, hC⟩
  · have e : bpopC C = zup C 19 1 (nI (d - 1)) := by
      unfold bpopC
      rw [hC, if_pos (show (0 : Int32) < nI d from nI_lt (a := 0) (b := d) (by omega) (by omega)), show nI d - 1 = nI (d - 1) from ixS (a := d) (b := 1) rfl (ixC 1) (by omega)]
    rw [e]
    exact ⟨h.set hC (by omega) (by omega), zup_at _ _ _ _⟩
theorem DM.cap {g : zG} {R : zRf} {f C : zI} {p d n : Nat} (h : DM C) (hC : C 19 1 = nI d) (hd : d ≤ 100) (hn : n ≤ d) : DM (bcap g R f C p n).2.2.2 := by
  have e1 : C 19 1 - nI n = nI (d - n) := ixS hC rfl hn
  have h1 : DM (zup C 19 1 (C 19 1 - nI n)) := by rw [e1]; exact h.set hC (by omega) (by omega)
  have h2 : DM (bnewRes (zup C 19 1 (C 19 1 - nI n))) := h1.of (bnewRes_r (by decide) (by decide))
  refine h2.push (a := d - n) ?_ (by omega)
  rw [bnewRes_r (by decide) (by decide), zup_at, e1]
theorem DM.resG {g : zG} {a : Nat} {R : zRf} {C : zI} {d : Nat} (h : DM C) (hC : C 19 1 = nI d) : ∀ k, d + k ≤ 900 → DM (bresG g a R C k).2 ∧ (bresG g a R C k).2 19 1 = nI (d + k) := by
  intro k
  induction k with
  | zero => intro _; exact ⟨h, hC⟩
  | succ k ih =>
    intro hk
    obtain ⟨h1, h2⟩ := ih (by omega)
    refine ⟨h1.push h2 (by omega), ?_⟩
    show bpushC _ 19 1 = _
    rw [bpushC_d, h2]
    exact ixA (a := d + k) (b := 1) rfl (ixC 1)
theorem DM.goat {x e d : Nat} {g : zG} {R : zRf} {f C : zI} (h : DM C) (hC : C 19 1 = nI d) (hd : d < 1000) : DM (bgoat g R f C x e).2.2.2 := by
  unfold bgoat bg1 bg3 bg5 bg9 bcall bleave bemit
  repeat' split
  all_goals first
    | exact h
    | exact h.push hC hd
    | exact h.z (by decide)
    | exact (h.z (by decide)).z (by decide)
    | exact h.exec hC hd
theorem DM.step {b0 c k d : Nat} {g : zG} {R : zRf} {f C : zI} (h : DM C) (hC : C 19 1 = nI d) (hd : d ≤ 100) (hV : bstepV b0 g R f C c k d) : DM (bstep g R f C k d).2.2.2 := by
  have h0 : DM (bstep0 g R f C k d).1.2.2.2 := by
    obtain ⟨hp, hp1⟩ := h.pop hC hd
    cases q : R 17 4 with
    | none =>
      rw [bstep0_n q]
      cases hb : bbelow C R 0 with
      | none => exact h
      | some x =>
        have hV := hV.2 q x hb
        by_cases k11 : f x 0 = 11
        · rw [bout_11 k11]
          show DM (bresu g R f C (g.2.2.2 x 4)).2
          cases ha : g.2.2.2 x 4 with
          | none => exact h
          | some a =>
            by_cases q : 100 < C 19 1 + (nI (bresuN g a) - 1)
            · rw [bresu_t q]; exact h
            · rw [bresu_f q]
              have hN := (hV.1 k11 a ha).2.1
              have h1 : DM (buse (bpopC C) f a) := hp.of (buse_r (by decide) (by decide))
              exact (h1.resG (d := d - 1) (by rw [buse_r (by decide) (by decide)]; exact hp1) _ (by omega)).1
        by_cases k14 : f x 0 = 14
        · rw [bout_14 k14]
          show DM (blcl g R f C x).2.2.2
          have e19 : (bfirst g f C R (g.2.2.2 x 4)).2.1 19 = C 19 := bfirst_r (by decide) (by decide) (by decide)
          have h1 : DM (bfirst g f C R (g.2.2.2 x 4)).2.1 := h.of e19
          have h2 : (bfirst g f C R (g.2.2.2 x 4)).2.1 19 1 = nI d := by rw [e19]; exact hC
          cases hq : (bfirst g f C R (g.2.2.2 x 4)).1 with
          | none => rw [(blcl_n rfl hq).1]; exact (h1.pop h2 hd).1
          | some y =>
            by_cases k : 100 < (bfirst g f C R (g.2.2.2 x 4)).2.1 19 1 + 1
            · rw [(blcl_t rfl hq k).1]; exact h1
            · rw [(blcl_f rfl hq k).1]
              exact h1.exec h2 (by omega)
        by_cases k13 : f x 0 = 13
        · rw [bout_13 k13]; exact hp.z (k := 17) (by decide)
        by_cases k7 : f x 0 = 7
        · rw [bout_7 k7]
          show DM (bperf g R f (bpopC C) (f (pA g x 1) 1) (d - 1)).2.2.2
          have h1 : DM (bpc (bpopC C) (f (pA g x 1) 1)) := hp.of (bpc_r (by decide))
          have h2 : bpc (bpopC C) (f (pA g x 1) 1) 19 1 = nI (d - 1) := by rw [bpc_r (by decide)]; exact hp1
          unfold bperf
          split
          · exact (h1.z (k := 17) (by decide)).z (k := 17) (by decide)
          · exact h1.cap (g := g) (R := R) (f := f) (p := tn (bphA g f (R 20) (f (pA g x 1) 1) (d - 1) 0)) (n := d - 1 - tn (bphA g f (R 20) (f (pA g x 1) 1) (d - 1) 0)) h2 (by omega) (by omega)
        · rw [bout_d k11 k14 k13 k7]
          exact hp.goat hp1 (by omega)
    | some e =>
      rw [bstep0_s q]
      unfold binto
      repeat' split
      all_goals first
        | exact h
        | exact h.z (by decide)
        | exact h.push hC (by omega)
        | exact (h.of (bnewFin_r (by decide) (by decide))).push (a := d) (by rw [bnewFin_r (by decide) (by decide)]; exact hC) (by omega)
  unfold bstep bfin
  split
  · exact h0.z (k := 17) (by decide)
  · exact (h0.z (k := 17) (by decide)).fin
/-! what a step costs -/
theorem bintoc_5 (f : zI) (e : Nat) : bintoc f e ≤ 5 := by
  unfold bintoc
  repeat' split
  all_goals omega
theorem bstepc_5 {g : zG} {R : zRf} {f C : zI} {dp : Nat} (h : R 17 4 = none → ∀ x, bbelow C R 0 = some x → ¬ f x 0 = 7) : bstepc g R f C dp ≤ 5 := by
  cases q : R 17 4 with
  | some e => rw [bstepc_s q]; exact bintoc_5 f e
  | none =>
    rw [bstepc_n q]
    cases hb : bbelow C R 0 with
    | none => exact Nat.zero_le _
    | some x => rw [boutc_o (h q x hb)]; exact Nat.le_refl _
theorem bstepc_111 {g : zG} {R : zRf} {f C : zI} {dp : Nat} : bstepc g R f C dp ≤ 111 := by
  cases q : R 17 4 with
  | some e => rw [bstepc_s q]; have := bintoc_5 f e; omega
  | none =>
    rw [bstepc_n q]
    cases hb : bbelow C R 0 with
    | none => exact Nat.zero_le _
    | some x =>
      show (if f x 0 = 7 then bperfc g f R _ _ else 5) ≤ 111
      split
      · unfold bperfc
        split <;> omega
      · omega
