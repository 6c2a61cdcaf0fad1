/-! The reference's constructor. -/
def RWk (b0 : Nat) (g : zG) (o k : Nat) : Prop := zIn b0 g o 12 ∧ g.1 = o + 1 + k ∧ ∀ q ∈ rT.take k, g.2.2.2 o q.1 = some (o + q.2.1) ∧ zIn b0 g (o + q.2.1) 13 ∧ g.2.2.1 (o + q.2.1) = q.2.2
def fz (o : Nat) (f : zI) (k : Nat) : zI := fun b => if o ≤ b ∧ b < o + 1 + k then fun _ => 0 else f b
theorem rT_fld : ∀ k, k < 19 → ∀ q ∈ rT.take k, q.1 ≠ (rT.getD k (0, 0, 0)).1 ∧ q.2.1 < k + 1 := by decide +kernel
theorem RWk.step {b0 : Nat} {g : zG} {o k fk n : Nat} (h : RWk b0 g o k) (hk : rT[k]? = some (fk, k + 1, n)) : RWk b0 (zpR (znG g 13 n) o fk (some g.1)) o (k + 1) := by
  obtain ⟨h1, h2, h3⟩ := h
  have hk19 : k < 19 := by
    have := (List.getElem?_eq_some_iff.mp hk).1
    exact this
  have hkD : rT.getD k (0, 0, 0) = (fk, k + 1, n) := by rw [List.getD_eq_getElem?_getD, hk]; rfl
  have hin : ∀ a t, zIn b0 g a t → zIn b0 (zpR (znG g 13 n) o fk (some g.1)) a t := by
    intro a t ha
    refine ⟨ha.1, Nat.lt_succ_of_lt ha.2.1, ?_⟩
    show zu1 g.2.1 g.1 13 a = t
    rw [zu1_ne _ _ _ (Nat.ne_of_lt ha.2.1)]
    exact ha.2.2
  refine ⟨hin _ _ h1, ?_, ?_⟩
  · show g.1 + 1 = _
    omega
  · intro q hq
    rw [List.take_add_one, hk] at hq
    rcases List.mem_append.mp hq with hq | hq
    · obtain ⟨q1, q2, q3⟩ := h3 q hq
      obtain ⟨r1, r2⟩ := rT_fld k hk19 q hq
      rw [hkD] at r1
      refine ⟨?_, hin _ _ q2, ?_⟩
      · show zup _ o fk (some g.1) o q.1 = _
        rw [zup_ne _ _ _ _ (Or.inr r1)]
        show zu1 g.2.2.2 g.1 _ o q.1 = _
        rw [zu1_ne _ _ _ (by omega)]
        exact q1
      · show zu1 g.2.2.1 g.1 n (o + q.2.1) = _
        rw [zu1_ne _ _ _ (by omega)]
        exact q3
    · have e : q = (fk, k + 1, n) := by simpa using hq
      subst e
      refine ⟨?_, ⟨by have := h1.1; show b0 ≤ o + (k + 1); omega, by show o + (k + 1) < g.1 + 1; omega, ?_⟩, ?_⟩
      · show zup _ o fk (some g.1) o fk = _
        rw [zup_at, h2]
        exact congrArg some (show o + 1 + k = o + (k + 1) by omega)
      · show zu1 g.2.1 g.1 13 (o + (k + 1)) = 13
        rw [show o + (k + 1) = g.1 by omega, zu1_at]
      · show zu1 g.2.2.1 g.1 n (o + (k + 1)) = n
        rw [show o + (k + 1) = g.1 by omega, zu1_at]
theorem RWk.f {b0 : Nat} {g : zG} {o k : Nat} (h : RWk b0 g o k) (f : zI) : znI g (fz o f k) = fz o f (k + 1) := by
  funext b
  unfold znI fz
  by_cases e : b = g.1
  · subst e
    rw [zu1_at, if_pos (by have := h.2.1; omega)]
  · rw [zu1_ne _ _ _ e]
    have := h.2.1
    by_cases c : o ≤ b ∧ b < o + 1 + k
    · rw [if_pos c, if_pos (by omega)]
    · rw [if_neg c, if_neg (by omega)]
theorem RWk.old {b0 : Nat} {g : zG} {o k fk n a : Nat} (h : RWk b0 g o k) (ha : a < o) : (zpR (znG g 13 n) o fk (some g.1)).2.1 a = g.2.1 a ∧ (zpR (znG g 13 n) o fk (some g.1)).2.2.1 a = g.2.2.1 a ∧ (zpR (znG g 13 n) o fk (some g.1)).2.2.2 a = g.2.2.2 a := by
  have := h.2.1
  refine ⟨zu1_ne _ _ _ (by omega), zu1_ne _ _ _ (by omega), ?_⟩
  show zup _ o fk (some g.1) a = _
  rw [zup_r (by omega)]
  exact zu1_ne _ _ _ (by omega)
theorem fz_19 {o : Nat} {f : zI} : fz o f 19 = rv o f (fun _ _ => 0) := by
  funext b
  unfold fz rv
  by_cases c : o ≤ b ∧ b < o + 20
  · rw [if_pos c]
  · rw [if_neg c]
theorem fz_0 {o : Nat} {f : zI} (h : f o = fun _ => 0) : fz o f 0 = f := by
  funext b
  unfold fz
  by_cases c : o ≤ b ∧ b < o + 1 + 0
  · rw [if_pos c, show b = o by omega, h]
  · rw [if_neg c]
def zSame (g g' : zG) (a : Nat) : Prop := g'.2.1 a = g.2.1 a ∧ g'.2.2.1 a = g.2.2.1 a ∧ g'.2.2.2 a = g.2.2.2 a
theorem zSame.rf {g : zG} {a : Nat} : zSame g g a := ⟨rfl, rfl, rfl⟩
theorem zSame.tr {g g1 g2 : zG} {a : Nat} (h : zSame g g1 a) (k : zSame g1 g2 a) : zSame g g2 a := ⟨k.1.trans h.1, k.2.1.trans h.2.1, k.2.2.trans h.2.2⟩
def pini0 : zI := zup (zup (zup (zup (zup (fun _ _ => 0) 2 0 (-9)) 2 1 (-9)) 2 2 (-9)) 2 3 (-9)) 2 4 (-9)
def pinit : zI := zup (pbegin pini0) 2 5 0
set_option maxRecDepth 20000 in
set_option maxHeartbeats 4000000 in
theorem T_X12_init {l : Launch} {d : Nat} {D : zD} {b0 : Nat} {g : zG} {f : zI} {o : Nat} (h0 : RWk b0 g o 0) (hf : f o = fun _ => 0) (hd : 1 ≤ d) : zM l d D b0 mX12_init [.ref o] g f (fun r g' f' mc ms => r = none ∧ RW b0 g' o ∧ g'.1 = o + 20 ∧ f' = rv o f pinit ∧ (∀ a, a < o → zSame g g' a) ∧ mc = 19 ∧ ms = 1390630) := by
  refine zM.start zmd_X12_init (Nat.le_of_ble_eq_true rfl) ⟨rfl, trivial⟩ [some (.ref o), none] rfl ?_
  rw [← fz_0 hf]
  have s0 : ∀ a, a < o → zSame g g a := fun _ _ => zSame.rf
  refine z_aload0 dX12_init_0 ?_
  refine z_objInit zl_RX12_1 zin_objectInit zcd_objectInit rfl (by omega) dX12_init_1 ?_
  refine z_aload0 dX12_init_4 ?_
  refine z_ldc dX12_init_5 zk_RX12_7 ?_
  refine z_newa (by decide) (N := 325000) rfl (by decide) zac_int dX12_init_7 ?_
  have hx0 : zIn b0 (znG g 13 325000) o 12 := ⟨h0.1.1, Nat.lt_succ_of_lt h0.1.2.1, (zu1_ne _ _ _ (Nat.ne_of_lt h0.1.2.1)).trans h0.1.2.2⟩
  refine z_putFRs fl_RX12_8 (by decide) (Or.inr ⟨_, rfl⟩) rfl rfl hx0 dX12_init_9 ?_
  have h1 := h0.step (k := 0) rfl
  rw [h0.f f]
  have s1 : ∀ a, a < o → zSame g _ a := fun a ha => (s0 a ha).tr (h0.old (n := 325000) (fk := 0) ha)
  generalize zpR (znG g 13 325000) o 0 (some g.1) = g1 at h1 s1 ⊢
  refine z_aload0 dX12_init_12 ?_
  refine z_sipush (v := 8490) dX12_init_13 (by decide) ?_
  refine z_newa (by decide) (N := 8490) rfl (by decide) zac_int dX12_init_16 ?_
  have hx1 : zIn b0 (znG g1 13 8490) o 12 := ⟨h1.1.1, Nat.lt_succ_of_lt h1.1.2.1, (zu1_ne _ _ _ (Nat.ne_of_lt h1.1.2.1)).trans h1.1.2.2⟩
  refine z_putFRs fl_RX12_14 (by decide) (Or.inr ⟨_, rfl⟩) rfl rfl hx1 dX12_init_18 ?_
  have h2 := h1.step (k := 1) rfl
  rw [h1.f f]
  have s2 : ∀ a, a < o → zSame g _ a := fun a ha => (s1 a ha).tr (h1.old (n := 8490) (fk := 2) ha)
  generalize zpR (znG g1 13 8490) o 2 (some g1.1) = g2 at h2 s2 ⊢
  refine z_aload0 dX12_init_21 ?_
  show zS _ _ _ _ _ _ _ 22 _ _ _ _ _
  refine z_sipush (v := 16980) dX12_init_22 (by decide) ?_
  refine z_newa (by decide) (N := 16980) rfl (by decide) zac_int dX12_init_25 ?_
  have hx2 : zIn b0 (znG g2 13 16980) o 12 := ⟨h2.1.1, Nat.lt_succ_of_lt h2.1.2.1, (zu1_ne _ _ _ (Nat.ne_of_lt h2.1.2.1)).trans h2.1.2.2⟩
  refine z_putFRs fl_RX12_17 (by decide) (Or.inr ⟨_, rfl⟩) rfl rfl hx2 dX12_init_27 ?_
  have h3 := h2.step (k := 2) rfl
  rw [h2.f f]
  have s3 : ∀ a, a < o → zSame g _ a := fun a ha => (s2 a ha).tr (h2.old (n := 16980) (fk := 3) ha)
  generalize zpR (znG g2 13 16980) o 3 (some g2.1) = g3 at h3 s3 ⊢
  refine z_aload0 dX12_init_30 ?_
  refine z_ldc dX12_init_31 zk_RX12_20 ?_
  refine z_newa (by decide) (N := 280000) rfl (by decide) zac_int dX12_init_33 ?_
  have hx3 : zIn b0 (znG g3 13 280000) o 12 := ⟨h3.1.1, Nat.lt_succ_of_lt h3.1.2.1, (zu1_ne _ _ _ (Nat.ne_of_lt h3.1.2.1)).trans h3.1.2.2⟩
  refine z_putFRs fl_RX12_21 (by decide) (Or.inr ⟨_, rfl⟩) rfl rfl hx3 dX12_init_35 ?_
  have h4 := h3.step (k := 3) rfl
  rw [h3.f f]
  have s4 : ∀ a, a < o → zSame g _ a := fun a ha => (s3 a ha).tr (h3.old (n := 280000) (fk := 5) ha)
  generalize zpR (znG g3 13 280000) o 5 (some g3.1) = g4 at h4 s4 ⊢
  refine z_aload0 dX12_init_38 ?_
  refine z_ldc dX12_init_39 zk_RX12_24 ?_
  refine z_newa (by decide) (N := 560000) rfl (by decide) zac_int dX12_init_41 ?_
  have hx4 : zIn b0 (znG g4 13 560000) o 12 := ⟨h4.1.1, Nat.lt_succ_of_lt h4.1.2.1, (zu1_ne _ _ _ (Nat.ne_of_lt h4.1.2.1)).trans h4.1.2.2⟩
  refine z_putFRs fl_RX12_25 (by decide) (Or.inr ⟨_, rfl⟩) rfl rfl hx4 dX12_init_43 ?_
  have h5 := h4.step (k := 4) rfl
  rw [h4.f f]
  have s5 : ∀ a, a < o → zSame g _ a := fun a ha => (s4 a ha).tr (h4.old (n := 560000) (fk := 6) ha)
  generalize zpR (znG g4 13 560000) o 6 (some g4.1) = g5 at h5 s5 ⊢
  refine z_aload0 dX12_init_46 ?_
  show zS _ _ _ _ _ _ _ 47 _ _ _ _ _
  refine z_bipush (v := 120) dX12_init_47 (by decide) ?_
  refine z_newa (by decide) (N := 120) rfl (by decide) zac_int dX12_init_49 ?_
  have hx5 : zIn b0 (znG g5 13 120) o 12 := ⟨h5.1.1, Nat.lt_succ_of_lt h5.1.2.1, (zu1_ne _ _ _ (Nat.ne_of_lt h5.1.2.1)).trans h5.1.2.2⟩
  refine z_putFRs fl_RX12_28 (by decide) (Or.inr ⟨_, rfl⟩) rfl rfl hx5 dX12_init_51 ?_
  have h6 := h5.step (k := 5) rfl
  rw [h5.f f]
  have s6 : ∀ a, a < o → zSame g _ a := fun a ha => (s5 a ha).tr (h5.old (n := 120) (fk := 7) ha)
  generalize zpR (znG g5 13 120) o 7 (some g5.1) = g6 at h6 s6 ⊢
  refine z_aload0 dX12_init_54 ?_
  refine z_sipush (v := 130) dX12_init_55 (by decide) ?_
  refine z_newa (by decide) (N := 130) rfl (by decide) zac_int dX12_init_58 ?_
  have hx6 : zIn b0 (znG g6 13 130) o 12 := ⟨h6.1.1, Nat.lt_succ_of_lt h6.1.2.1, (zu1_ne _ _ _ (Nat.ne_of_lt h6.1.2.1)).trans h6.1.2.2⟩
  refine z_putFRs fl_RX12_31 (by decide) (Or.inr ⟨_, rfl⟩) rfl rfl hx6 dX12_init_60 ?_
  have h7 := h6.step (k := 6) rfl
  rw [h6.f f]
  have s7 : ∀ a, a < o → zSame g _ a := fun a ha => (s6 a ha).tr (h6.old (n := 130) (fk := 9) ha)
  generalize zpR (znG g6 13 130) o 9 (some g6.1) = g7 at h7 s7 ⊢
  refine z_aload0 dX12_init_63 ?_
  refine z_sipush (v := 130) dX12_init_64 (by decide) ?_
  refine z_newa (by decide) (N := 130) rfl (by decide) zac_int dX12_init_67 ?_
  have hx7 : zIn b0 (znG g7 13 130) o 12 := ⟨h7.1.1, Nat.lt_succ_of_lt h7.1.2.1, (zu1_ne _ _ _ (Nat.ne_of_lt h7.1.2.1)).trans h7.1.2.2⟩
  refine z_putFRs fl_RX12_34 (by decide) (Or.inr ⟨_, rfl⟩) rfl rfl hx7 dX12_init_69 ?_
  have h8 := h7.step (k := 7) rfl
  rw [h7.f f]
  have s8 : ∀ a, a < o → zSame g _ a := fun a ha => (s7 a ha).tr (h7.old (n := 130) (fk := 10) ha)
  generalize zpR (znG g7 13 130) o 10 (some g7.1) = g8 at h8 s8 ⊢
  refine z_aload0 dX12_init_72 ?_
  show zS _ _ _ _ _ _ _ 73 _ _ _ _ _
  refine z_sipush (v := 130) dX12_init_73 (by decide) ?_
  refine z_newa (by decide) (N := 130) rfl (by decide) zac_int dX12_init_76 ?_
  have hx8 : zIn b0 (znG g8 13 130) o 12 := ⟨h8.1.1, Nat.lt_succ_of_lt h8.1.2.1, (zu1_ne _ _ _ (Nat.ne_of_lt h8.1.2.1)).trans h8.1.2.2⟩
  refine z_putFRs fl_RX12_37 (by decide) (Or.inr ⟨_, rfl⟩) rfl rfl hx8 dX12_init_78 ?_
  have h9 := h8.step (k := 8) rfl
  rw [h8.f f]
  have s9 : ∀ a, a < o → zSame g _ a := fun a ha => (s8 a ha).tr (h8.old (n := 130) (fk := 11) ha)
  generalize zpR (znG g8 13 130) o 11 (some g8.1) = g9 at h9 s9 ⊢
  refine z_aload0 dX12_init_81 ?_
  refine z_sipush (v := 130) dX12_init_82 (by decide) ?_
  refine z_newa (by decide) (N := 130) rfl (by decide) zac_int dX12_init_85 ?_
  have hx9 : zIn b0 (znG g9 13 130) o 12 := ⟨h9.1.1, Nat.lt_succ_of_lt h9.1.2.1, (zu1_ne _ _ _ (Nat.ne_of_lt h9.1.2.1)).trans h9.1.2.2⟩
  refine z_putFRs fl_RX12_40 (by decide) (Or.inr ⟨_, rfl⟩) rfl rfl hx9 dX12_init_87 ?_
  have h10 := h9.step (k := 9) rfl
  rw [h9.f f]
  have s10 : ∀ a, a < o → zSame g _ a := fun a ha => (s9 a ha).tr (h9.old (n := 130) (fk := 12) ha)
  generalize zpR (znG g9 13 130) o 12 (some g9.1) = g10 at h10 s10 ⊢
  refine z_aload0 dX12_init_90 ?_
  refine z_ldc dX12_init_91 zk_RX12_43 ?_
  refine z_newa (by decide) (N := 65000) rfl (by decide) zac_int dX12_init_93 ?_
  have hx10 : zIn b0 (znG g10 13 65000) o 12 := ⟨h10.1.1, Nat.lt_succ_of_lt h10.1.2.1, (zu1_ne _ _ _ (Nat.ne_of_lt h10.1.2.1)).trans h10.1.2.2⟩
  refine z_putFRs fl_RX12_44 (by decide) (Or.inr ⟨_, rfl⟩) rfl rfl hx10 dX12_init_95 ?_
  have h11 := h10.step (k := 10) rfl
  rw [h10.f f]
  have s11 : ∀ a, a < o → zSame g _ a := fun a ha => (s10 a ha).tr (h10.old (n := 65000) (fk := 18) ha)
  generalize zpR (znG g10 13 65000) o 18 (some g10.1) = g11 at h11 s11 ⊢
  refine z_aload0 dX12_init_98 ?_
  show zS _ _ _ _ _ _ _ 99 _ _ _ _ _
  refine z_sipush (v := 400) dX12_init_99 (by decide) ?_
  refine z_newa (by decide) (N := 400) rfl (by decide) zac_int dX12_init_102 ?_
  have hx11 : zIn b0 (znG g11 13 400) o 12 := ⟨h11.1.1, Nat.lt_succ_of_lt h11.1.2.1, (zu1_ne _ _ _ (Nat.ne_of_lt h11.1.2.1)).trans h11.1.2.2⟩
  refine z_putFRs fl_RX12_47 (by decide) (Or.inr ⟨_, rfl⟩) rfl rfl hx11 dX12_init_104 ?_
  have h12 := h11.step (k := 11) rfl
  rw [h11.f f]
  have s12 : ∀ a, a < o → zSame g _ a := fun a ha => (s11 a ha).tr (h11.old (n := 400) (fk := 19) ha)
  generalize zpR (znG g11 13 400) o 19 (some g11.1) = g12 at h12 s12 ⊢
  refine z_aload0 dX12_init_107 ?_
  refine z_sipush (v := 400) dX12_init_108 (by decide) ?_
  refine z_newa (by decide) (N := 400) rfl (by decide) zac_int dX12_init_111 ?_
  have hx12 : zIn b0 (znG g12 13 400) o 12 := ⟨h12.1.1, Nat.lt_succ_of_lt h12.1.2.1, (zu1_ne _ _ _ (Nat.ne_of_lt h12.1.2.1)).trans h12.1.2.2⟩
  refine z_putFRs fl_RX12_50 (by decide) (Or.inr ⟨_, rfl⟩) rfl rfl hx12 dX12_init_113 ?_
  have h13 := h12.step (k := 12) rfl
  rw [h12.f f]
  have s13 : ∀ a, a < o → zSame g _ a := fun a ha => (s12 a ha).tr (h12.old (n := 400) (fk := 20) ha)
  generalize zpR (znG g12 13 400) o 20 (some g12.1) = g13 at h13 s13 ⊢
  refine z_aload0 dX12_init_116 ?_
  refine z_ldc dX12_init_117 zk_RX12_43 ?_
  refine z_newa (by decide) (N := 65000) rfl (by decide) zac_int dX12_init_119 ?_
  have hx13 : zIn b0 (znG g13 13 65000) o 12 := ⟨h13.1.1, Nat.lt_succ_of_lt h13.1.2.1, (zu1_ne _ _ _ (Nat.ne_of_lt h13.1.2.1)).trans h13.1.2.2⟩
  refine z_putFRs fl_RX12_53 (by decide) (Or.inr ⟨_, rfl⟩) rfl rfl hx13 dX12_init_121 ?_
  have h14 := h13.step (k := 13) rfl
  rw [h13.f f]
  have s14 : ∀ a, a < o → zSame g _ a := fun a ha => (s13 a ha).tr (h13.old (n := 65000) (fk := 21) ha)
  generalize zpR (znG g13 13 65000) o 21 (some g13.1) = g14 at h14 s14 ⊢
  refine z_aload0 dX12_init_124 ?_
  show zS _ _ _ _ _ _ _ 125 _ _ _ _ _
  refine z_ldc dX12_init_125 zk_RX12_43 ?_
  refine z_newa (by decide) (N := 65000) rfl (by decide) zac_int dX12_init_127 ?_
  have hx14 : zIn b0 (znG g14 13 65000) o 12 := ⟨h14.1.1, Nat.lt_succ_of_lt h14.1.2.1, (zu1_ne _ _ _ (Nat.ne_of_lt h14.1.2.1)).trans h14.1.2.2⟩
  refine z_putFRs fl_RX12_56 (by decide) (Or.inr ⟨_, rfl⟩) rfl rfl hx14 dX12_init_129 ?_
  have h15 := h14.step (k := 14) rfl
  rw [h14.f f]
  have s15 : ∀ a, a < o → zSame g _ a := fun a ha => (s14 a ha).tr (h14.old (n := 65000) (fk := 22) ha)
  generalize zpR (znG g14 13 65000) o 22 (some g14.1) = g15 at h15 s15 ⊢
  refine z_aload0 dX12_init_132 ?_
  refine z_bipush (v := 100) dX12_init_133 (by decide) ?_
  refine z_newa (by decide) (N := 100) rfl (by decide) zac_int dX12_init_135 ?_
  have hx15 : zIn b0 (znG g15 13 100) o 12 := ⟨h15.1.1, Nat.lt_succ_of_lt h15.1.2.1, (zu1_ne _ _ _ (Nat.ne_of_lt h15.1.2.1)).trans h15.1.2.2⟩
  refine z_putFRs fl_RX12_59 (by decide) (Or.inr ⟨_, rfl⟩) rfl rfl hx15 dX12_init_137 ?_
  have h16 := h15.step (k := 15) rfl
  rw [h15.f f]
  have s16 : ∀ a, a < o → zSame g _ a := fun a ha => (s15 a ha).tr (h15.old (n := 100) (fk := 23) ha)
  generalize zpR (znG g15 13 100) o 23 (some g15.1) = g16 at h16 s16 ⊢
  refine z_aload0 dX12_init_140 ?_
  refine z_sipush (v := 1210) dX12_init_141 (by decide) ?_
  refine z_newa (by decide) (N := 1210) rfl (by decide) zac_int dX12_init_144 ?_
  have hx16 : zIn b0 (znG g16 13 1210) o 12 := ⟨h16.1.1, Nat.lt_succ_of_lt h16.1.2.1, (zu1_ne _ _ _ (Nat.ne_of_lt h16.1.2.1)).trans h16.1.2.2⟩
  refine z_putFRs fl_RX12_62 (by decide) (Or.inr ⟨_, rfl⟩) rfl rfl hx16 dX12_init_146 ?_
  have h17 := h16.step (k := 16) rfl
  rw [h16.f f]
  have s17 : ∀ a, a < o → zSame g _ a := fun a ha => (s16 a ha).tr (h16.old (n := 1210) (fk := 24) ha)
  generalize zpR (znG g16 13 1210) o 24 (some g16.1) = g17 at h17 s17 ⊢
  refine z_aload0 dX12_init_149 ?_
  show zS _ _ _ _ _ _ _ 150 _ _ _ _ _
  refine z_sipush (v := 1210) dX12_init_150 (by decide) ?_
  refine z_newa (by decide) (N := 1210) rfl (by decide) zac_int dX12_init_153 ?_
  have hx17 : zIn b0 (znG g17 13 1210) o 12 := ⟨h17.1.1, Nat.lt_succ_of_lt h17.1.2.1, (zu1_ne _ _ _ (Nat.ne_of_lt h17.1.2.1)).trans h17.1.2.2⟩
  refine z_putFRs fl_RX12_65 (by decide) (Or.inr ⟨_, rfl⟩) rfl rfl hx17 dX12_init_155 ?_
  have h18 := h17.step (k := 17) rfl
  rw [h17.f f]
  have s18 : ∀ a, a < o → zSame g _ a := fun a ha => (s17 a ha).tr (h17.old (n := 1210) (fk := 25) ha)
  generalize zpR (znG g17 13 1210) o 25 (some g17.1) = g18 at h18 s18 ⊢
  refine z_aload0 dX12_init_158 ?_
  refine z_sipush (v := 1200) dX12_init_159 (by decide) ?_
  refine z_newa (by decide) (N := 1200) rfl (by decide) zac_int dX12_init_162 ?_
  have hx18 : zIn b0 (znG g18 13 1200) o 12 := ⟨h18.1.1, Nat.lt_succ_of_lt h18.1.2.1, (zu1_ne _ _ _ (Nat.ne_of_lt h18.1.2.1)).trans h18.1.2.2⟩
  refine z_putFRs fl_RX12_68 (by decide) (Or.inr ⟨_, rfl⟩) rfl rfl hx18 dX12_init_164 ?_
  have h19 := h18.step (k := 18) rfl
  rw [h18.f f]
  have s19 : ∀ a, a < o → zSame g _ a := fun a ha => (s18 a ha).tr (h18.old (n := 1200) (fk := 26) ha)
  generalize zpR (znG g18 13 1200) o 26 (some g18.1) = g19 at h19 s19 ⊢
  have hW : RW b0 g19 o := ⟨h19.1, h19.2.2⟩
  rw [fz_19]
  refine z_iconst (v := 0) dX12_init_167 (by decide) ?_
  refine z_istore1 dX12_init_168 ?_
  refine z_iload1 dX12_init_169 ?_
  refine z_iconst (v := 5) dX12_init_170 (by decide) ?_
  refine z_icmp_ge (tgt := 188) dX12_init_171 (by decide) (fun c171 => ?_) (fun c171 => ?_)
  · exact absurd (by decide) c171
  · show zS _ _ _ _ _ _ _ 174 _ _ _ _ _
    refine z_aload0 dX12_init_174 ?_
    refine z_getRs fl_RX12_14 (by decide) hW.o (hW.r 1 rfl) dX12_init_175 ?_
    refine z_iload1 dX12_init_178 ?_
    refine z_bipush (v := (-9)) dX12_init_179 (by decide) ?_
    refine zr_st hW (i := 1) rfl (by decide) (by decide) (ixC 0) (by decide) dX12_init_181 ?_
    refine z_iinc1 (y := 1) dX12_init_182 (by decide) ?_
    refine z_goto (tgt := 169) dX12_init_185 (by decide) ?_
    show zS _ _ _ _ _ _ _ 169 _ _ _ _ _
    refine z_iload1 dX12_init_169 ?_
    refine z_iconst (v := 5) dX12_init_170 (by decide) ?_
    refine z_icmp_ge (tgt := 188) dX12_init_171 (by decide) (fun c171 => ?_) (fun c171 => ?_)
    · exact absurd (by decide) c171
    · show zS _ _ _ _ _ _ _ 174 _ _ _ _ _
      refine z_aload0 dX12_init_174 ?_
      refine z_getRs fl_RX12_14 (by decide) hW.o (hW.r 1 rfl) dX12_init_175 ?_
      refine z_iload1 dX12_init_178 ?_
      refine z_bipush (v := (-9)) dX12_init_179 (by decide) ?_
      refine zr_st hW (i := 1) rfl (by decide) (by decide) (ixA (ixC 0) (ixC 1)) (by omega) dX12_init_181 ?_
      refine z_iinc1 (y := 1) dX12_init_182 (by decide) ?_
      refine z_goto (tgt := 169) dX12_init_185 (by decide) ?_
      show zS _ _ _ _ _ _ _ 169 _ _ _ _ _
      refine z_iload1 dX12_init_169 ?_
      refine z_iconst (v := 5) dX12_init_170 (by decide) ?_
      refine z_icmp_ge (tgt := 188) dX12_init_171 (by decide) (fun c171 => ?_) (fun c171 => ?_)
      · exact absurd (by decide) c171
      · show zS _ _ _ _ _ _ _ 174 _ _ _ _ _
        refine z_aload0 dX12_init_174 ?_
        refine z_getRs fl_RX12_14 (by decide) hW.o (hW.r 1 rfl) dX12_init_175 ?_
        refine z_iload1 dX12_init_178 ?_
        refine z_bipush (v := (-9)) dX12_init_179 (by decide) ?_
        refine zr_st hW (i := 1) rfl (by decide) (by decide) (ixA (ixA (ixC 0) (ixC 1)) (ixC 1)) (by omega) dX12_init_181 ?_
        refine z_iinc1 (y := 1) dX12_init_182 (by decide) ?_
        refine z_goto (tgt := 169) dX12_init_185 (by decide) ?_
        show zS _ _ _ _ _ _ _ 169 _ _ _ _ _
        refine z_iload1 dX12_init_169 ?_
        refine z_iconst (v := 5) dX12_init_170 (by decide) ?_
        refine z_icmp_ge (tgt := 188) dX12_init_171 (by decide) (fun c171 => ?_) (fun c171 => ?_)
        · exact absurd (by decide) c171
        · show zS _ _ _ _ _ _ _ 174 _ _ _ _ _
          refine z_aload0 dX12_init_174 ?_
          refine z_getRs fl_RX12_14 (by decide) hW.o (hW.r 1 rfl) dX12_init_175 ?_
          refine z_iload1 dX12_init_178 ?_
          refine z_bipush (v := (-9)) dX12_init_179 (by decide) ?_
          refine zr_st hW (i := 1) rfl (by decide) (by decide) (ixA (ixA (ixA (ixC 0) (ixC 1)) (ixC 1)) (ixC 1)) (by omega) dX12_init_181 ?_
          refine z_iinc1 (y := 1) dX12_init_182 (by decide) ?_
          refine z_goto (tgt := 169) dX12_init_185 (by decide) ?_
          show zS _ _ _ _ _ _ _ 169 _ _ _ _ _
          refine z_iload1 dX12_init_169 ?_
          refine z_iconst (v := 5) dX12_init_170 (by decide) ?_
          refine z_icmp_ge (tgt := 188) dX12_init_171 (by decide) (fun c171 => ?_) (fun c171 => ?_)
          · exact absurd (by decide) c171
          · show zS _ _ _ _ _ _ _ 174 _ _ _ _ _
            refine z_aload0 dX12_init_174 ?_
            refine z_getRs fl_RX12_14 (by decide) hW.o (hW.r 1 rfl) dX12_init_175 ?_
            refine z_iload1 dX12_init_178 ?_
            refine z_bipush (v := (-9)) dX12_init_179 (by decide) ?_
            refine zr_st hW (i := 1) rfl (by decide) (by decide) (ixA (ixA (ixA (ixA (ixC 0) (ixC 1)) (ixC 1)) (ixC 1)) (ixC 1)) (by omega) dX12_init_181 ?_
            refine z_iinc1 (y := 1) dX12_init_182 (by decide) ?_
            refine z_goto (tgt := 169) dX12_init_185 (by decide) ?_
            show zS _ _ _ _ _ _ _ 169 _ _ _ _ _
            refine z_iload1 dX12_init_169 ?_
            refine z_iconst (v := 5) dX12_init_170 (by decide) ?_
            refine z_icmp_ge (tgt := 188) dX12_init_171 (by decide) (fun c171 => ?_) (fun c171 => ?_)
            · show zS _ _ _ _ _ _ _ 188 _ _ _ _ _
              refine z_aload0 dX12_init_188 ?_
              refine z_callVv zmd_X12_begin rfl (by decide) zl_RX12_71 zin_X12_begin zsel_X12_begin (R_X12_begin (d := d - 1) hW) hW.o rfl rfl (by omega) rfl dX12_init_189 ?_
              refine z_aload0 dX12_init_192 ?_
              refine z_getRs fl_RX12_14 (by decide) hW.o (hW.r 1 rfl) dX12_init_193 ?_
              refine z_iconst (v := 5) dX12_init_196 (by decide) ?_
              refine z_iconst (v := 0) dX12_init_197 (by decide) ?_
              refine zr_st hW (i := 1) rfl (by decide) (by decide) (ixC 5) (by decide) dX12_init_198 ?_
              refine z_ret dX12_init_199 rfl ?_
              exact ⟨rfl, hW, h19.2.1, by rw [fz_0 hf]; rfl, s19, rfl, rfl⟩
            · exact absurd c171 (by decide)
