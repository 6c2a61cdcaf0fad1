/-! The law's procedures: both objects read one. -/
section LDE
variable {l : Launch} {d : Nat} {D : zD} {b0 n0 c c' k k' a : Nat} {g G : zG} {f F M N : zI}
/-- only the text behind its end differs -/
theorem OB.tx (h : OB b0 n0 c k M g f) (hk : 120 * k ≤ 64800) {tx : List Nat} (h1 : TXT M tx) (h2 : TXT N tx) (hr : ∀ r, r ≠ 0 → r ≠ 6 → N r = M r) (h0 : ∀ j, j ≠ 8 → N 0 j = M 0 j) : OB b0 n0 c k N g f := by
  obtain ⟨g0, R, f0, C, t, y, n, ⟨rfl, rfl⟩, ⟨hW, hF, hw⟩, h, h26⟩ := h
  have h' := h
  obtain ⟨-, ⟨⟨len, tt, v1, v2⟩, -⟩, -, ⟨q1, -⟩, -, hbd⟩ := h
  have v2 : C 0 1 = nI len := v2
  have e8 : M 0 8 = nI len := v1.2.1
  have hlen : len = tx.length := by
    have := h1.2.1.symm.trans e8
    exact ((nI_eq (by have := h1.1; omega) (by have := v1.1; omega)).mp this).symm
  have n1 : N 1 = M 1 := hr 1 (by decide) (by decide)
  have n2 : N 2 = M 2 := hr 2 (by decide) (by decide)
  refine ⟨g0, R, f0, C, t, y, n, ⟨rfl, rfl⟩, ⟨hW, hF, hw⟩, h'.sm (Nat.le_refl _) hk ⟨len, tt, ⟨v1.1, ?_, fun i hi => ?_⟩, v2⟩ (fun _ _ => rfl) (fun _ _ => rfl) (fun r r0 _ r6 _ _ => hr r r0 r6) h0 (fun j _ => congrFun n2 j) (q1.base.2.1.sm n1 (fun j _ => congrFun n2 j)) (hbd.sm n1 (hr 11 (by decide) (by decide)) (fun j _ => congrFun n2 j)), h26⟩
  · rw [hlen]; exact h2.2.1
  · obtain ⟨a1, a2, a3⟩ := v1.2.2 i hi
    refine ⟨a1, ?_, a3⟩
    rw [h2.2.2 i (by omega), ← h1.2.2 i (by omega)]; exact a2
theorem OB.up (h : OB b0 n0 c k M g f) (hk : 120 * k ≤ 64800) : OB b0 n0 c (k + 1) M g f := by
  obtain ⟨g0, R, f0, C, t, y, n, e, w, h, h26⟩ := h
  exact ⟨g0, R, f0, C, t, y, n, e, w, h.same hk, h26⟩
/-- where both objects and the array lie -/
def HG (n0 c c' a : Nat) : Prop := (c + 27 ≤ c' ∨ c' + 27 ≤ c) ∧ a < n0 ∧ ¬ (c ≤ a ∧ a < c + 27) ∧ ¬ (c' ≤ a ∧ a < c' + 27)
theorem HG.sw (h : HG n0 c c' a) : HG n0 c' c a := ⟨h.1.symm, h.2.1, h.2.2.2, h.2.2.1⟩
/-- a call of one leaves the other -/
theorem OB.oth {k2 : Nat} (hP : OB b0 n0 c' k' M g f) (hk : 120 * k' ≤ 64800) (hG : HG n0 c c' a) (hO : OB b0 n0 c k2 N G F) (hK : KP c g f G F) : OB b0 n0 c' k' M G F := hP.keepG hk (hK.n hO.lo.1 hG.1) hG.1 hO
theorem OB.othW {k2 : Nat} (hP : OB b0 n0 c' k' M g f) (hk : 120 * k' ≤ 64800) (hG : HG n0 c c' a) (hO : OB b0 n0 c k2 N G F) (hK : KW c a g f G F) : OB b0 n0 c' k' M G F := hP.keepG hk (hK.n ⟨hG.2.1, hG.2.2.2⟩ hO.lo.1 hG.1) hG.1 hO
/-- the images' array of the one, where the other is called -/
theorem KP.r26 (h : KP c' g f G F) (hO : OB b0 n0 c k M g f) (hG : HG n0 c c' a) : G.2.2.2 (c + 26) = g.2.2.2 (c + 26) := by
  obtain ⟨h1, h2⟩ := hO.lo
  have h3 := hG.1
  exact (h.2.1 (c + 26) (by omega) (by omega)).1
theorem KW.r26 (h : KW c' a g f G F) (hO : OB b0 n0 c k M g f) (hG : HG n0 c c' a) : G.2.2.2 (c + 26) = g.2.2.2 (c + 26) := by
  obtain ⟨h1, h2⟩ := hO.lo
  have h3 := hG.1
  have h4 := hG.2.2.1
  exact (h.2.1 (c + 26) (by omega) (by omega) (by omega)).1
/-- both read a procedure -/
def DFQ (b0 n0 c c' k k' a : Nat) (M : zI) (g : zG) : zP := fun r G F mc ms => r = some (.int 1) ∧ mc ≤ 1088 ∧ ms ≤ 8886 ∧ (∃ M', OB b0 n0 c (k + 2) M' G F ∧ OB b0 n0 c' (k' + 1) M' G F ∧ ARR b0 G a ∧ LABM M' ∧ Z01 M' ∧ M' 0 4 = M 0 4) ∧ G.2.2.2 (c + 26) = g.2.2.2 (c + 26)
/-- both write the same expression -/
theorem two_w (hG : HG n0 c c' a) (hP : OB b0 n0 c' k' M g f) (hk' : 120 * k' ≤ 64800) {tx : List Nat} {M1 M2 : zI} {g1 g2 : zG} {f1 f2 : zI} (h1 : OB b0 n0 c k M1 g1 f1) (hk : 120 * k ≤ 64800) (t1 : TXT M1 tx) (w1 : WM M M1) (K1 : KW c a g f g1 f1) (h2 : OB b0 n0 c' k' M2 g2 f2) (t2 : TXT M2 tx) (w2 : WM M M2) (K2 : KW c' a g1 f1 g2 f2) : OB b0 n0 c k M1 g2 f2 ∧ OB b0 n0 c' k' M1 g2 f2 := by
  refine ⟨h1.othW hk hG.sw h2 K2, h2.tx hk' t2 t1 (fun r r0 r6 => (w1.1 r r0 r6).trans (w2.1 r r0 r6).symm) (fun j hj => (w1.2 j hj).trans (w2.2 j hj).symm)⟩
theorem L_defines (hO : OB b0 n0 c k M g f) (hP : OB b0 n0 c' k' M g f) (hk : 120 * (k + 2) ≤ 64800) (hk' : 120 * (k' + 1) ≤ 64800) (hA : ARR b0 g a) (hG : HG n0 c c' a) (hL : LABM M) (hZ : Z01 M) (hd : 8 ≤ d) (hNs : zsN D ≤ 260) {p : Nat} (hp : p < 2) : zM l d D b0 mL_defines [.ref c, .ref c', .ref (zsB D), .ref a, .int (nI p)] g f (DFQ b0 n0 c c' k k' a M g) := by
  refine zM.start zmd_L_defines (Nat.le_of_ble_eq_true rfl) ⟨rfl, rfl, rfl, rfl, rfl, trivial⟩ [some (.ref c), some (.ref c'), some (.ref (zsB D)), some (.ref a), some (.int (nI p)), none, none] rfl ?_
  have e20 : (20 : Int32) + 10 * nI p = nI (20 + 10 * p) := ixA (ixC 20) (ixM (ixC 10) rfl)
  refine z_aload0 dL_defines_0 ?_
  refine z_aload2 dL_defines_1 ?_
  refine z_bipush (v := 20) dL_defines_2 (by decide) ?_
  refine z_bipush (v := 10) dL_defines_4 (by decide) ?_
  refine z_iload4 dL_defines_6 ?_
  refine z_imul dL_defines_8 ?_
  refine z_iadd dL_defines_9 ?_
  rw [e20]
  refine z_aload3 dL_defines_10 ?_
  refine z_ldc dL_defines_11 zk_RL_68 ?_
  refine z_callS zmd_L_writeOne zl_RL_69 zst_L_writeOne (L_writeOne (d := d - 1) hO (by omega) hA hG.2.1 hG.2.2.1 (by omega) hNs (by omega) (Or.inr rfl)) rfl rfl (by omega) rfl dL_defines_13 (fun r1 g1 f1 mc1 ms1 q1 => ?_)
  obtain ⟨rfl, rfl, rfl, M1, h1, A1, t1, w1, K1⟩ := q1
  have hP1 := hP.othW (by omega) hG h1 K1
  refine z_istore5 dL_defines_16 ?_
  refine z_aload1 dL_defines_18 ?_
  refine z_aload2 dL_defines_19 ?_
  refine z_bipush (v := 20) dL_defines_20 (by decide) ?_
  refine z_bipush (v := 10) dL_defines_22 (by decide) ?_
  refine z_iload4 dL_defines_24 ?_
  refine z_imul dL_defines_26 ?_
  refine z_iadd dL_defines_27 ?_
  rw [e20]
  refine z_aload3 dL_defines_28 ?_
  refine z_ldc dL_defines_29 zk_RL_68 ?_
  refine z_callS zmd_L_writeOne zl_RL_69 zst_L_writeOne (L_writeOne (d := d - 1) hP1 (by omega) A1 hG.2.1 hG.2.2.2 (by omega) hNs (by omega) (Or.inr rfl)) rfl rfl (by omega) rfl dL_defines_31 (fun r2 g2 f2 mc2 ms2 q2 => ?_)
  obtain ⟨rfl, rfl, rfl, M2, h2, A2, t2, w2, K2⟩ := q2
  obtain ⟨o1, p1⟩ := two_w hG hP (by omega) h1 (by omega) t1 w1 K1 h2 t2 w2 K2
  have L1 : LABM M1 := hL.of (w1.1 1 (by decide) (by decide)) (w1.2 1 (by decide)) (fun k _ => congrFun (w1.1 2 (by decide) (by decide)) k)
  have Z1 : Z01 M1 := hZ.of (fun q _ => congrFun (w1.1 2 (by decide) (by decide)) _)
  have fa : (pfault M1 1).1 = -9 := pfault_w (hW_HDs D (20 + 10 * p)) (Or.inr rfl) rfl t1 o1 (by omega) L1
  obtain ⟨d1, d2, d3, d4⟩ := pdefine_w (hW_HDs D (20 + 10 * p)) t1 o1 (by omega) L1 Z1 (p := p) (by omega)
  refine z_istore6 dL_defines_34 ?_
  refine z_iload5 dL_defines_36 ?_
  refine z_iload6 dL_defines_38 ?_
  refine z_icmp_ne (tgt := 79) dL_defines_40 (by decide) (fun c40 => absurd rfl c40) (fun _ => ?_)
  show zS _ _ _ _ _ _ _ 43 _ _ _ _ _
  refine z_aload0 dL_defines_43 ?_
  refine z_iconst (v := 1) dL_defines_44 (by decide) ?_
  refine z_callV zmd_X11_fault rfl (by decide) zl_RL_73 zin_X11_fault zsel_X11_fault (O_fault (d := d - 1) o1 (by omega) (by omega) 1) o1.inn rfl rfl (by omega) rfl dL_defines_45 (fun r3 g3 f3 mc3 ms3 q3 => ?_)
  obtain ⟨rfl, hc3, hs3, h3, K3⟩ := q3
  have p3 := p1.oth (by omega) hG h3 K3
  rw [fa]
  refine z_bipush (v := (-9)) dL_defines_48 (by decide) ?_
  refine z_icmp_ne (tgt := 79) dL_defines_50 (by decide) (fun c50 => absurd rfl c50) (fun _ => ?_)
  show zS _ _ _ _ _ _ _ 53 _ _ _ _ _
  refine z_aload0 dL_defines_53 ?_
  refine z_iload4 dL_defines_54 ?_
  refine z_callV zmd_X11_define rfl (by decide) zl_RL_76 zin_X11_define zsel_X11_define (O_define (d := d - 1) h3 (by omega) (by omega) (nI p)) h3.inn rfl rfl (by omega) rfl dL_defines_56 (fun r4 g4 f4 mc4 ms4 q4 => ?_)
  obtain ⟨rfl, hc4, hs4, h4, K4⟩ := q4
  have p4 := p3.oth (by omega) hG h4 K4
  rw [d1]
  refine z_iload5 dL_defines_59 ?_
  refine z_icmp_ne (tgt := 79) dL_defines_61 (by decide) (fun c61 => absurd rfl c61) (fun _ => ?_)
  show zS _ _ _ _ _ _ _ 64 _ _ _ _ _
  refine z_aload1 dL_defines_64 ?_
  refine z_iload4 dL_defines_65 ?_
  refine z_callV zmd_X11_define rfl (by decide) zl_RL_76 zin_X11_define zsel_X11_define (O_define (d := d - 1) p4 (by omega) (by omega) (nI p)) p4.inn rfl rfl (by omega) rfl dL_defines_67 (fun r5 g5 f5 mc5 ms5 q5 => ?_)
  obtain ⟨rfl, hc5, hs5, h5, K5⟩ := q5
  have o5 := h4.oth (by omega) hG.sw h5 K5
  rw [d1]
  refine z_iload5 dL_defines_70 ?_
  refine z_icmp_ne (tgt := 79) dL_defines_72 (by decide) (fun c72 => absurd rfl c72) (fun _ => ?_)
  show zS _ _ _ _ _ _ _ 75 _ _ _ _ _
  refine z_iconst (v := 1) dL_defines_75 (by decide) ?_
  refine z_goto (tgt := 80) dL_defines_76 (by decide) ?_
  show zS _ _ _ _ _ _ _ 80 _ _ _ _ _
  refine z_iret dL_defines_80 rfl ?_
  refine ⟨rfl, by omega, by omega, ⟨(pdefine M1 (nI p)).2, o5, h5, ?_, d2, d3, d4.trans (w1.2 4 (by decide))⟩, ?_⟩
  · exact ((A2.le K3.1).le K4.1).le K5.1
  · exact (K5.r26 h4 hG).trans (K4.2.2.trans (K3.2.2.trans ((K2.r26 h1 hG).trans K1.2.2)))
end LDE
