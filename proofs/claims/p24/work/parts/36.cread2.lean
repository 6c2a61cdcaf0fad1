/-! The class's reader, over the block: what each byte does. -/
/-- a part has been read to its end: depth k -/
def bepA (f : zI) (R : zRf) : Nat → zI → zI
  | 0, C => zup C 2 2 5
  | k + 1, C =>
    if f ((R 4 (k + 1)).getD 0) 0 = 123 then zup (zup C 5 (k + 1) 1) 2 2 4 else
    if zup C 5 (k + 1) (C 5 (k + 1) + 1) 5 (k + 1) < bparts (f ((R 4 (k + 1)).getD 0) 0) then
      (if f ((R 4 (k + 1)).getD 0) 0 = 61 then zup (zup (zup C 5 (k + 1) (C 5 (k + 1) + 1)) 7 (k + 1) (C 7 k ||| 1 <<< (f ((R 4 (k + 1)).getD 0) 1 &&& 31))) 2 2 0 else zup (zup C 5 (k + 1) (C 5 (k + 1) + 1)) 2 2 0)
    else bepA f R k (zup (zup C 5 (k + 1) (C 5 (k + 1) + 1)) 2 9 (C 2 9 - 1))
theorem bepA_1 {f : zI} {R : zRf} {k : Nat} {C : zI} {w : Nat} (hw : (R 4 (k + 1)).getD 0 = w) (h : f w 0 = 123) : bepA f R (k + 1) C = zup (zup C 5 (k + 1) 1) 2 2 4 := by
  subst hw
  exact if_pos h
theorem bepA_2 {f : zI} {R : zRf} {k : Nat} {C : zI} {w : Nat} (hw : (R 4 (k + 1)).getD 0 = w) (h : ¬ f w 0 = 123) (h2 : zup C 5 (k + 1) (C 5 (k + 1) + 1) 5 (k + 1) < bparts (f w 0)) (h3 : f w 0 = 61) : bepA f R (k + 1) C = zup (zup (zup C 5 (k + 1) (C 5 (k + 1) + 1)) 7 (k + 1) (C 7 k ||| 1 <<< (f w 1 &&& 31))) 2 2 0 := by
  subst hw
  exact (if_neg h).trans ((if_pos h2).trans (if_pos h3))
theorem bepA_3 {f : zI} {R : zRf} {k : Nat} {C : zI} {w : Nat} (hw : (R 4 (k + 1)).getD 0 = w) (h : ¬ f w 0 = 123) (h2 : zup C 5 (k + 1) (C 5 (k + 1) + 1) 5 (k + 1) < bparts (f w 0)) (h3 : ¬ f w 0 = 61) : bepA f R (k + 1) C = zup (zup C 5 (k + 1) (C 5 (k + 1) + 1)) 2 2 0 := by
  subst hw
  exact (if_neg h).trans ((if_pos h2).trans (if_neg h3))
theorem bepA_4 {f : zI} {R : zRf} {k : Nat} {C : zI} {w : Nat} (hw : (R 4 (k + 1)).getD 0 = w) (h : ¬ f w 0 = 123) (h2 : ¬ zup C 5 (k + 1) (C 5 (k + 1) + 1) 5 (k + 1) < bparts (f w 0)) : bepA f R (k + 1) C = bepA f R k (zup (zup C 5 (k + 1) (C 5 (k + 1) + 1)) 2 9 (C 2 9 - 1)) := by
  subst hw
  exact (if_neg h).trans (if_neg h2)
set_option maxRecDepth 20000 in
set_option maxHeartbeats 400000 in
theorem Bl_X6_endPart {l : Launch} {d : Nat} {D : zD} {b0 : Nat} {g : zG} {f : zI} {R : zRf} {c : Nat} (hW : CW b0 g c) (hF : CF c R) (hw : zOK b0 zNo (gv c g R)) (hd : 1 ≤ d) (cs ns c1 c2 : Nat) (hcs : cs ≤ c1) (hns : ns ≤ c2) : ∀ (n : Nat) (C : zI) (y : Option Value), C 2 9 = nI n → n ≤ 120 → (∀ k, 1 ≤ k → k ≤ n → R 4 k = some ((R 4 k).getD 0)) → zS l d D b0 mX6_endPart cs ns 0 [some (.ref (c + 2)), y] [] (gv c g R) (cv c f C) (zq D b0 (zCy b0 zNo c g none g R f (bepA f R n C) c1 c2)) := by
  intro n
  induction n with
  | zero =>
    intro C y hdp hn hop
    refine z_aload0 dX6_endPart_0 ?_
    refine zc_getI (j := 2) hW fl_RX6_37 rfl dX6_endPart_1 ?_
    refine z_if_le (tgt := 126) dX6_endPart_4 (by decide) (fun c4 => ?_) (fun c4 => ?_)
    · show zS _ _ _ _ _ _ _ 126 _ _ _ _ _
      refine z_aload0 dX6_endPart_126 ?_
      refine z_iconst (v := 5) dX6_endPart_127 (by decide) ?_
      refine zc_putI (j := 2) hW fl_RX6_43 rfl dX6_endPart_128 ?_
      refine z_ret dX6_endPart_131 rfl ?_
      exact ⟨rfl, rfl, rfl, by omega, by omega, hw, zLe.rf, hW⟩
    · exact absurd (Classical.not_not.mp (fun q => q c4)) (by rw [hdp]; decide)
  | succ k ih =>
    intro C y hdp hn hop
    have hk1 : C 2 9 - 1 = nI k := by rw [hdp]; exact ixS (a := k + 1) (b := 1) rfl rfl (by omega)
    refine z_aload0 dX6_endPart_0 ?_
    refine zc_getI (j := 2) hW fl_RX6_37 rfl dX6_endPart_1 ?_
    refine z_if_le (tgt := 126) dX6_endPart_4 (by decide) (fun c4 => ?_) (fun c4 => ?_)
    · exact absurd (by rw [hdp]; exact nI_lt (a := 0) (by omega) (by omega)) c4
    · show zS _ _ _ _ _ _ _ 7 _ _ _ _ _
      refine z_aload0 dX6_endPart_7 ?_
      refine zc_getF (j := 2) hW fl_RX6_17 rfl (by decide) (hF _ (List.mem_of_getElem? (i := 7) rfl)) dX6_endPart_8 ?_
      refine z_aload0 dX6_endPart_11 ?_
      refine zc_getI (j := 2) hW fl_RX6_37 rfl dX6_endPart_12 ?_
      refine zc_alds (j := 4) (t' := 1) hw hW rfl (by decide) (by decide) hdp (by omega) (fun _ => rfl) (by decide) (hop (k + 1) (by omega) (Nat.le_refl _)) dX6_endPart_15 (fun i1 => ?_)
      refine z_astore1 dX6_endPart_16 ?_
      refine z_aload1 dX6_endPart_17 ?_
      refine zd_getI hW fl_RX6_118 i1 (by decide) dX6_endPart_18 ?_
      refine z_bipush (v := 123) dX6_endPart_21 (by decide) ?_
      refine z_icmp_ne (tgt := 42) dX6_endPart_23 (by decide) (fun c23 => ?_) (fun c23 => ?_)
      · show zS _ _ _ _ _ _ _ 42 _ _ _ _ _
        refine z_aload0 dX6_endPart_42 ?_
        refine zc_getF (j := 2) hW fl_RX6_20 rfl (by decide) (hF _ (List.mem_of_getElem? (i := 8) rfl)) dX6_endPart_43 ?_
        refine z_aload0 dX6_endPart_46 ?_
        refine zc_getI (j := 2) hW fl_RX6_37 rfl dX6_endPart_47 ?_
        refine z_dup2 dX6_endPart_50 ?_
        refine zc_ld (j := 5) hW rfl (by decide) hdp (by omega) dX6_endPart_51 ?_
        refine z_iconst (v := 1) dX6_endPart_52 (by decide) ?_
        refine z_iadd dX6_endPart_53 ?_
        refine zc_st (j := 5) hW rfl (by decide) hdp (by omega) dX6_endPart_54 ?_
        refine z_aload0 dX6_endPart_55 ?_
        refine zc_getF (j := 2) hW fl_RX6_20 rfl (by decide) (hF _ (List.mem_of_getElem? (i := 8) rfl)) dX6_endPart_56 ?_
        show zS _ _ _ _ _ _ _ 59 _ _ _ _ _
        refine z_aload0 dX6_endPart_59 ?_
        refine zc_getI (j := 2) hW fl_RX6_37 rfl dX6_endPart_60 ?_
        refine zc_ld (j := 5) hW rfl (by decide) hdp (by omega) dX6_endPart_63 ?_
        refine z_aload1 dX6_endPart_64 ?_
        refine z_callVi zmd_X1_parts rfl (by decide) zl_RX6_121 zin_X1_parts zsel_X1_parts (B_X1_parts (d := d - 1) hW hF hw _ i1) i1 rfl rfl (by omega) rfl dX6_endPart_65 ?_
        refine z_icmp_ge (tgt := 113) dX6_endPart_68 (by decide) (fun c68 => ?_) (fun c68 => ?_)
        · show zS _ _ _ _ _ _ _ 113 _ _ _ _ _
          rw [bepA_4 rfl c23 c68]
          refine z_aload0 dX6_endPart_113 ?_
          refine z_dup dX6_endPart_114 ?_
          refine zc_getI (j := 2) hW fl_RX6_37 rfl dX6_endPart_115 ?_
          refine z_iconst (v := 1) dX6_endPart_118 (by decide) ?_
          refine z_isub dX6_endPart_119 ?_
          refine zc_putI (j := 2) hW fl_RX6_37 rfl dX6_endPart_120 ?_
          refine z_goto (tgt := 0) dX6_endPart_123 (by decide) ?_
          exact ih _ _ hk1 (by omega) (fun j h1 h2 => hop j h1 (by omega))
        · show zS _ _ _ _ _ _ _ 71 _ _ _ _ _
          refine z_aload1 dX6_endPart_71 ?_
          refine zd_getI hW fl_RX6_118 i1 (by decide) dX6_endPart_72 ?_
          refine z_bipush (v := 61) dX6_endPart_75 (by decide) ?_
          refine z_icmp_ne (tgt := 107) dX6_endPart_77 (by decide) (fun c77 => ?_) (fun c77 => ?_)
          · show zS _ _ _ _ _ _ _ 107 _ _ _ _ _
            refine z_aload0 dX6_endPart_107 ?_
            refine z_iconst (v := 0) dX6_endPart_108 (by decide) ?_
            refine zc_putI (j := 2) hW fl_RX6_43 rfl dX6_endPart_109 ?_
            rw [bepA_3 rfl c23 c68 c77]
            refine z_ret dX6_endPart_112 rfl ?_
            exact ⟨rfl, rfl, rfl, by omega, by omega, hw, zLe.rf, hW⟩
          · show zS _ _ _ _ _ _ _ 80 _ _ _ _ _
            refine z_aload0 dX6_endPart_80 ?_
            refine zc_getF (j := 2) hW fl_RX6_27 rfl (by decide) (hF _ (List.mem_of_getElem? (i := 10) rfl)) dX6_endPart_81 ?_
            refine z_aload0 dX6_endPart_84 ?_
            refine zc_getI (j := 2) hW fl_RX6_37 rfl dX6_endPart_85 ?_
            refine z_aload0 dX6_endPart_88 ?_
            refine zc_getF (j := 2) hW fl_RX6_27 rfl (by decide) (hF _ (List.mem_of_getElem? (i := 10) rfl)) dX6_endPart_89 ?_
            refine z_aload0 dX6_endPart_92 ?_
            refine zc_getI (j := 2) hW fl_RX6_37 rfl dX6_endPart_93 ?_
            refine z_iconst (v := 1) dX6_endPart_96 (by decide) ?_
            refine z_isub dX6_endPart_97 ?_
            refine zc_ld (j := 7) hW rfl (by decide) (hk1 : _ = nI k) (by omega) dX6_endPart_98 ?_
            show zS _ _ _ _ _ _ _ 99 _ _ _ _ _
            refine z_iconst (v := 1) dX6_endPart_99 (by decide) ?_
            refine z_aload1 dX6_endPart_100 ?_
            refine zd_getI hW fl_RX6_63 i1 (by decide) dX6_endPart_101 ?_
            refine z_ishl dX6_endPart_104 ?_
            refine z_ior dX6_endPart_105 ?_
            refine zc_st (j := 7) hW rfl (by decide) hdp (by omega) dX6_endPart_106 ?_
            refine z_aload0 dX6_endPart_107 ?_
            refine z_iconst (v := 0) dX6_endPart_108 (by decide) ?_
            refine zc_putI (j := 2) hW fl_RX6_43 rfl dX6_endPart_109 ?_
            rw [bepA_2 rfl c23 c68 c77]
            refine z_ret dX6_endPart_112 rfl ?_
            exact ⟨rfl, rfl, rfl, by omega, by omega, hw, zLe.rf, hW⟩
      · show zS _ _ _ _ _ _ _ 26 _ _ _ _ _
        refine z_aload0 dX6_endPart_26 ?_
        refine zc_getF (j := 2) hW fl_RX6_20 rfl (by decide) (hF _ (List.mem_of_getElem? (i := 8) rfl)) dX6_endPart_27 ?_
        refine z_aload0 dX6_endPart_30 ?_
        refine zc_getI (j := 2) hW fl_RX6_37 rfl dX6_endPart_31 ?_
        refine z_iconst (v := 1) dX6_endPart_34 (by decide) ?_
        refine zc_st (j := 5) hW rfl (by decide) hdp (by omega) dX6_endPart_35 ?_
        refine z_aload0 dX6_endPart_36 ?_
        refine z_iconst (v := 4) dX6_endPart_37 (by decide) ?_
        refine zc_putI (j := 2) hW fl_RX6_43 rfl dX6_endPart_38 ?_
        rw [bepA_1 rfl c23]
        refine z_ret dX6_endPart_41 rfl ?_
        exact ⟨rfl, rfl, rfl, by omega, by omega, hw, zLe.rf, hW⟩
set_option maxRecDepth 20000 in
set_option maxHeartbeats 400000 in
theorem B_X6_endPart {l : Launch} {d : Nat} {D : zD} {b0 : Nat} {g : zG} {f C : zI} {R : zRf} {c : Nat} (hW : CW b0 g c) (hF : CF c R) (hw : zOK b0 zNo (gv c g R)) (n : Nat) (hdp : C 2 9 = nI n) (hn : n ≤ 120) (hop : ∀ k, 1 ≤ k → k ≤ n → R 4 k = some ((R 4 k).getD 0)) (hd : 1 ≤ d) : zM l d D b0 mX6_endPart [.ref (c + 2)] (gv c g R) (cv c f C) (zCy b0 zNo c g none g R f (bepA f R n C) 0 0) := by
  refine zM.start zmd_X6_endPart (Nat.le_of_ble_eq_true rfl) ⟨rfl, trivial⟩ [some (.ref (c + 2)), none] rfl ?_
  exact Bl_X6_endPart hW hF hw hd 0 0 0 0 (Nat.le_refl _) (Nat.le_refl _) n C none hdp hn hop
def baddLeaf (g : zG) (R : zRf) (f C : zI) (x mk : Int32) (n m : Nat) : bSt :=
  ((badd g R f C x n m).1, (badd g R f C x n m).2.1, zup (badd g R f C x n m).2.2.1 g.1 1 mk, bepA (zup (badd g R f C x n m).2.2.1 g.1 1 mk) (badd g R f C x n m).2.1 n (badd g R f C x n m).2.2.2)
theorem badd_in {b0 : Nat} {g : zG} {R : zRf} {f C : zI} {c : Nat} {x : Int32} {n m : Nat} (hW : CW b0 g c) : zIn b0 (badd g R f C x n m).1 g.1 1 := by
  have h1 : zIn b0 (dxG (znG g 1 0) g.1 x) g.1 1 := (zIn.self (Nat.le_trans hW.1 (by have := hW.2.1; omega)) : zIn b0 (znG g 1 0) g.1 1).le (dxG_le _ _ _)
  have h2 : ∀ C' w p, zIn b0 (batt (dxG (znG g 1 0) g.1 x) C' n w p) g.1 1 := by
    intro C' w p
    unfold batt
    split
    · exact h1
    · split
      · split <;> exact h1
      · exact h1
  show zIn b0 (if 0 < C 2 9 then _ else _) g.1 1
  split
  · exact h2 _ _ _
  · exact h1
set_option maxRecDepth 20000 in
set_option maxHeartbeats 400000 in
theorem B_X6_addLeaf {l : Launch} {d : Nat} {D : zD} {b0 : Nat} {g : zG} {f C : zI} {R : zRf} {c : Nat} (hW : CW b0 g c) (hF : CF c R) (hw : zOK b0 zNo (gv c g R)) (x mk : Int32) (n m : Nat) (hV : RV b0 c 119 g R C n m) (hd : 3 ≤ d) : zM l d D b0 mX6_addLeaf [.ref (c + 2), .int x, .int mk] (gv c g R) (cv c f C) (zCy b0 zNo c g (some (.int 1)) (baddLeaf g R f C x mk n m).1 (baddLeaf g R f C x mk n m).2.1 (baddLeaf g R f C x mk n m).2.2.1 (baddLeaf g R f C x mk n m).2.2.2 3 24) := by
  obtain ⟨hdp, hct, hn, hm, h6, hop, hal, hE⟩ := hV
  refine zM.start zmd_X6_addLeaf (Nat.le_of_ble_eq_true rfl) ⟨rfl, rfl, rfl, trivial⟩ [some (.ref (c + 2)), some (.int x), some (.int mk), none] rfl ?_
  refine z_aload0 dX6_addLeaf_0 ?_
  refine z_iload1 dX6_addLeaf_1 ?_
  refine z_callV zmd_X6_addExpression rfl (by decide) zl_RX6_89 zin_X6_addExpression zsel_X6_addExpression (B_X6_addExpression (d := d - 1) hW hF hw _ n m hdp hct (by omega) (by omega) (fun h => hop n (npos hdp (by omega) h) (Nat.le_refl _)) (h6 n) hE (by omega)) (hW.i 2 rfl) rfl rfl (by omega) rfl dX6_addLeaf_2 (fun r1 g1 f1 mc1 ms1 q1 => ?_)
  obtain ⟨rfl, rfl, rfl, hc1, hs1, w1, k1, b1⟩ := q1
  refine z_astore3 dX6_addLeaf_5 ?_
  refine z_aload3 dX6_addLeaf_6 ?_
  refine z_ifnonnull (r := some _) (tgt := 12) dX6_addLeaf_7 (by decide) (fun a7 c7 => ?_) (fun c7 => ?_)
  · show zS _ _ _ _ _ _ _ 12 _ _ _ _ _
    refine z_aload3 dX6_addLeaf_12 ?_
    refine z_iload2 dX6_addLeaf_13 ?_
    refine zd_putI b1 fl_RX6_63 (badd_in hW) (by decide) dX6_addLeaf_14 ?_
    refine z_aload0 dX6_addLeaf_17 ?_
    refine z_callV zmd_X6_endPart rfl (by decide) zl_RX6_93 zin_X6_endPart zsel_X6_endPart (B_X6_endPart (d := d - 1) b1 (hF.add) w1 n (hdp : zup C 2 1 (C 2 1 + 1) 2 9 = nI n) (by omega) (fun k h1 h2 => hop k h1 h2) (by omega)) (b1.i 2 rfl) rfl rfl (by omega) rfl dX6_addLeaf_18 (fun r2 g2 f2 mc2 ms2 q2 => ?_)
    obtain ⟨rfl, rfl, rfl, hc2, hs2, w2, k2, b2⟩ := q2
    refine z_iconst (v := 1) dX6_addLeaf_21 (by decide) ?_
    refine z_iret dX6_addLeaf_22 rfl ?_
    exact ⟨rfl, rfl, rfl, by omega, by omega, w2, (k1.tr k2), b2⟩
  · cases c7
theorem CF.leaf {c : Nat} {g : zG} {R : zRf} {f C : zI} {x mk : Int32} {n m : Nat} (h : CF c R) : CF c (baddLeaf g R f C x mk n m).2.1 := h.r3
/-- an expression with parts is begun -/
def bbexG (g : zG) (R : zRf) (f C : zI) (x : Int32) (n m : Nat) : zG := if x = 64 then zpR (badd g R f C x n m).1 g.1 7 ((badd g R f C x n m).2.1 8 n) else (badd g R f C x n m).1
def bbexC (C : zI) (nx : Int32) (n : Nat) : zI :=
  let C1 := zup C 2 9 (C 2 9 + 1)
  let C2 := zup C1 5 (n + 1) 0
  let C3 := zup C2 7 (n + 1) (C2 7 n)
  zup C3 2 2 nx
def bbexR (R : zRf) (e n : Nat) : zRf :=
  let R1 := zup R 4 (n + 1) (some e)
  zup R1 8 (n + 1) (R1 8 n)
def bbex (g : zG) (R : zRf) (f C : zI) (x nx : Int32) (n m : Nat) : bSt :=
  (bbexG g R f C x n m, bbexR (badd g R f C x n m).2.1 g.1 n, (badd g R f C x n m).2.2.1, bbexC (badd g R f C x n m).2.2.2 nx n)
theorem bbexG_t {g : zG} {R : zRf} {f C : zI} {x : Int32} {n m : Nat} (h : x = 64) : bbexG g R f C x n m = zpR (badd g R f C x n m).1 g.1 7 ((badd g R f C x n m).2.1 8 n) := if_pos h
theorem bbexG_f {g : zG} {R : zRf} {f C : zI} {x : Int32} {n m : Nat} (h : ¬ x = 64) : bbexG g R f C x n m = (badd g R f C x n m).1 := if_neg h
theorem CF.bex {c : Nat} {g : zG} {R : zRf} {f C : zI} {x nx : Int32} {n m : Nat} (h : CF c R) : CF c (bbex g R f C x nx n m).2.1 := h.r3.r4.r8
set_option maxRecDepth 20000 in
set_option maxHeartbeats 400000 in
theorem B_X6_beginExpression {l : Launch} {d : Nat} {D : zD} {b0 : Nat} {g : zG} {f C : zI} {R : zRf} {c : Nat} (hW : CW b0 g c) (hF : CF c R) (hw : zOK b0 zNo (gv c g R)) (x nx : Int32) (n m : Nat) (hV : RV b0 c 119 g R C n m) (hd : 3 ≤ d) : zM l d D b0 mX6_beginExpression [.ref (c + 2), .int x, .int nx] (gv c g R) (cv c f C) (zCy b0 zNo c g (some (.int 1)) (bbex g R f C x nx n m).1 (bbex g R f C x nx n m).2.1 (bbex g R f C x nx n m).2.2.1 (bbex g R f C x nx n m).2.2.2 3 24) := by
  obtain ⟨hdp, hct, hn, hm, h6, hop, hal, hE⟩ := hV
  refine zM.start zmd_X6_beginExpression (Nat.le_of_ble_eq_true rfl) ⟨rfl, rfl, rfl, trivial⟩ [some (.ref (c + 2)), some (.int x), some (.int nx), none] rfl ?_
  refine z_aload0 dX6_beginExpression_0 ?_
  refine zc_getI (j := 2) hW fl_RX6_37 rfl dX6_beginExpression_1 ?_
  refine z_iconst (v := 1) dX6_beginExpression_4 (by decide) ?_
  refine z_iadd dX6_beginExpression_5 ?_
  refine z_aload0 dX6_beginExpression_6 ?_
  refine zc_getF (j := 2) hW fl_RX6_17 rfl (by decide) (hF _ (List.mem_of_getElem? (i := 7) rfl)) dX6_beginExpression_7 ?_
  refine zc_len (j := 4) hW rfl (by decide) dX6_beginExpression_10 ?_
  refine z_icmp_ge (tgt := 22) dX6_beginExpression_11 (by decide) (fun c11 => ?_) (fun c11 => ?_)
  · exact absurd (by rw [show C 2 9 + 1 = nI (n + 1) from ixA hdp (ixC 1)]; exact nI_lt (b := 121) (by omega) (by decide)) c11
  · show zS _ _ _ _ _ _ _ 14 _ _ _ _ _
    refine z_aload0 dX6_beginExpression_14 ?_
    refine z_iload1 dX6_beginExpression_15 ?_
    refine z_callV zmd_X6_addExpression rfl (by decide) zl_RX6_89 zin_X6_addExpression zsel_X6_addExpression (B_X6_addExpression (d := d - 1) hW hF hw _ n m hdp hct (by omega) (by omega) (fun h => hop n (npos hdp (by omega) h) (Nat.le_refl _)) (h6 n) hE (by omega)) (hW.i 2 rfl) rfl rfl (by omega) rfl dX6_beginExpression_16 (fun r1 g1 f1 mc1 ms1 q1 => ?_)
    obtain ⟨rfl, rfl, rfl, hc1, hs1, w1, k1, b1⟩ := q1
    have hd0 : (badd g R f C x n m).2.2.2 2 9 = nI n := hdp
    have hd1 : (badd g R f C x n m).2.2.2 2 9 + 1 = nI (n + 1) := ixA hd0 (ixC 1)
    have hm1 : (badd g R f C x n m).2.2.2 2 9 + 1 - 1 = nI n := ixS (a := n + 1) (b := 1) hd1 (ixC 1) (by omega)
    refine z_goto (tgt := 23) dX6_beginExpression_19 (by decide) ?_
    show zS _ _ _ _ _ _ _ 23 _ _ _ _ _
    refine z_astore3 dX6_beginExpression_23 ?_
    refine z_aload3 dX6_beginExpression_24 ?_
    refine z_ifnonnull (r := some _) (tgt := 30) dX6_beginExpression_25 (by decide) (fun a25 c25 => ?_) (fun c25 => ?_)
    · show zS _ _ _ _ _ _ _ 30 _ _ _ _ _
      refine z_iload1 dX6_beginExpression_30 ?_
      refine z_bipush (v := 64) dX6_beginExpression_31 (by decide) ?_
      refine z_icmp_ne (tgt := 49) dX6_beginExpression_33 (by decide) (fun c33 => ?_) (fun c33 => ?_)
      · show zS _ _ _ _ _ _ _ 49 _ _ _ _ _
        refine z_aload0 dX6_beginExpression_49 ?_
        refine z_dup dX6_beginExpression_50 ?_
        refine zc_getI (j := 2) b1 fl_RX6_37 rfl dX6_beginExpression_51 ?_
        refine z_iconst (v := 1) dX6_beginExpression_54 (by decide) ?_
        refine z_iadd dX6_beginExpression_55 ?_
        refine zc_putI (j := 2) b1 fl_RX6_37 rfl dX6_beginExpression_56 ?_
        refine z_aload0 dX6_beginExpression_59 ?_
        refine zc_getF (j := 2) b1 fl_RX6_17 rfl (by decide) ((hF.add) _ (List.mem_of_getElem? (i := 7) rfl)) dX6_beginExpression_60 ?_
        refine z_aload0 dX6_beginExpression_63 ?_
        refine zc_getI (j := 2) b1 fl_RX6_37 rfl dX6_beginExpression_64 ?_
        refine z_aload3 dX6_beginExpression_67 ?_
        show zS _ _ _ _ _ _ _ 68 _ _ _ _ _
        refine zc_asts (j := 4) (t' := 1) w1 b1 rfl (by decide) (by decide) hd1 (by omega) (fun _ => rfl) (badd_in hW) dX6_beginExpression_68 (fun w2 => ?_)
        refine z_aload0 dX6_beginExpression_69 ?_
        refine zc_getF (j := 2) b1 fl_RX6_20 rfl (by decide) (((hF.add).upj (by decide)) _ (List.mem_of_getElem? (i := 8) rfl)) dX6_beginExpression_70 ?_
        refine z_aload0 dX6_beginExpression_73 ?_
        refine zc_getI (j := 2) b1 fl_RX6_37 rfl dX6_beginExpression_74 ?_
        refine z_iconst (v := 0) dX6_beginExpression_77 (by decide) ?_
        refine zc_st (j := 5) b1 rfl (by decide) hd1 (by omega) dX6_beginExpression_78 ?_
        refine z_aload0 dX6_beginExpression_79 ?_
        refine zc_getF (j := 2) b1 fl_RX6_27 rfl (by decide) (((hF.add).upj (by decide)) _ (List.mem_of_getElem? (i := 10) rfl)) dX6_beginExpression_80 ?_
        refine z_aload0 dX6_beginExpression_83 ?_
        refine zc_getI (j := 2) b1 fl_RX6_37 rfl dX6_beginExpression_84 ?_
        refine z_aload0 dX6_beginExpression_87 ?_
        show zS _ _ _ _ _ _ _ 88 _ _ _ _ _
        refine zc_getF (j := 2) b1 fl_RX6_27 rfl (by decide) (((hF.add).upj (by decide)) _ (List.mem_of_getElem? (i := 10) rfl)) dX6_beginExpression_88 ?_
        refine z_aload0 dX6_beginExpression_91 ?_
        refine zc_getI (j := 2) b1 fl_RX6_37 rfl dX6_beginExpression_92 ?_
        refine z_iconst (v := 1) dX6_beginExpression_95 (by decide) ?_
        refine z_isub dX6_beginExpression_96 ?_
        refine zc_ld (j := 7) b1 rfl (by decide) hm1 (by omega) dX6_beginExpression_97 ?_
        refine zc_st (j := 7) b1 rfl (by decide) hd1 (by omega) dX6_beginExpression_98 ?_
        refine z_aload0 dX6_beginExpression_99 ?_
        refine zc_getF (j := 2) b1 fl_RX6_30 rfl (by decide) (((hF.add).upj (by decide)) _ (List.mem_of_getElem? (i := 11) rfl)) dX6_beginExpression_100 ?_
        refine z_aload0 dX6_beginExpression_103 ?_
        refine zc_getI (j := 2) b1 fl_RX6_37 rfl dX6_beginExpression_104 ?_
        refine z_aload0 dX6_beginExpression_107 ?_
        show zS _ _ _ _ _ _ _ 108 _ _ _ _ _
        refine zc_getF (j := 2) b1 fl_RX6_30 rfl (by decide) (((hF.add).upj (by decide)) _ (List.mem_of_getElem? (i := 11) rfl)) dX6_beginExpression_108 ?_
        refine z_aload0 dX6_beginExpression_111 ?_
        refine zc_getI (j := 2) b1 fl_RX6_37 rfl dX6_beginExpression_112 ?_
        refine z_iconst (v := 1) dX6_beginExpression_115 (by decide) ?_
        refine z_isub dX6_beginExpression_116 ?_
        refine zc_ald (j := 8) (t' := 1) w2 b1 rfl (by decide) (by decide) hm1 (by omega) (fun _ => rfl) (by decide) dX6_beginExpression_117 (fun i3 => ?_)
        refine zc_ast (j := 8) (t' := 1) w2 b1 rfl (by decide) (by decide) hd1 (by omega) (fun _ => rfl) i3 dX6_beginExpression_118 (fun w4 => ?_)
        refine z_aload0 dX6_beginExpression_119 ?_
        refine z_iload2 dX6_beginExpression_120 ?_
        refine zc_putI (j := 2) b1 fl_RX6_43 rfl dX6_beginExpression_121 ?_
        refine z_iconst (v := 1) dX6_beginExpression_124 (by decide) ?_
        refine z_iret dX6_beginExpression_125 rfl ?_
        rw [show bbex g R f C x nx n m = (_, _, _, _) from rfl, bbexG_f c33]
        exact ⟨rfl, rfl, rfl, by omega, by omega, w4, k1, b1⟩
      · show zS _ _ _ _ _ _ _ 36 _ _ _ _ _
        refine z_aload3 dX6_beginExpression_36 ?_
        refine z_aload0 dX6_beginExpression_37 ?_
        refine zc_getF (j := 2) b1 fl_RX6_30 rfl (by decide) ((hF.add) _ (List.mem_of_getElem? (i := 11) rfl)) dX6_beginExpression_38 ?_
        refine z_aload0 dX6_beginExpression_41 ?_
        refine zc_getI (j := 2) b1 fl_RX6_37 rfl dX6_beginExpression_42 ?_
        refine zc_ald (j := 8) (t' := 1) w1 b1 rfl (by decide) (by decide) hd0 (by omega) (fun _ => rfl) (by decide) dX6_beginExpression_45 (fun i5 => ?_)
        refine zd_putR w1 b1 fl_RX6_96 (by decide) (Or.inl ⟨_, rfl⟩) (badd_in hW) (by decide) i5 (by decide) dX6_beginExpression_46 (fun w6 => ?_)
        refine z_aload0 dX6_beginExpression_49 ?_
        refine z_dup dX6_beginExpression_50 ?_
        refine zc_getI (j := 2) b1 fl_RX6_37 rfl dX6_beginExpression_51 ?_
        refine z_iconst (v := 1) dX6_beginExpression_54 (by decide) ?_
        show zS _ _ _ _ _ _ _ 55 _ _ _ _ _
        refine z_iadd dX6_beginExpression_55 ?_
        refine zc_putI (j := 2) b1 fl_RX6_37 rfl dX6_beginExpression_56 ?_
        refine z_aload0 dX6_beginExpression_59 ?_
        refine zc_getF (j := 2) b1 fl_RX6_17 rfl (by decide) ((hF.add) _ (List.mem_of_getElem? (i := 7) rfl)) dX6_beginExpression_60 ?_
        refine z_aload0 dX6_beginExpression_63 ?_
        refine zc_getI (j := 2) b1 fl_RX6_37 rfl dX6_beginExpression_64 ?_
        refine z_aload3 dX6_beginExpression_67 ?_
        refine zc_asts (j := 4) (t' := 1) w6 b1 rfl (by decide) (by decide) hd1 (by omega) (fun _ => rfl) (badd_in hW) dX6_beginExpression_68 (fun w7 => ?_)
        refine z_aload0 dX6_beginExpression_69 ?_
        refine zc_getF (j := 2) b1 fl_RX6_20 rfl (by decide) (((hF.add).upj (by decide)) _ (List.mem_of_getElem? (i := 8) rfl)) dX6_beginExpression_70 ?_
        refine z_aload0 dX6_beginExpression_73 ?_
        refine zc_getI (j := 2) b1 fl_RX6_37 rfl dX6_beginExpression_74 ?_
        show zS _ _ _ _ _ _ _ 77 _ _ _ _ _
        refine z_iconst (v := 0) dX6_beginExpression_77 (by decide) ?_
        refine zc_st (j := 5) b1 rfl (by decide) hd1 (by omega) dX6_beginExpression_78 ?_
        refine z_aload0 dX6_beginExpression_79 ?_
        refine zc_getF (j := 2) b1 fl_RX6_27 rfl (by decide) (((hF.add).upj (by decide)) _ (List.mem_of_getElem? (i := 10) rfl)) dX6_beginExpression_80 ?_
        refine z_aload0 dX6_beginExpression_83 ?_
        refine zc_getI (j := 2) b1 fl_RX6_37 rfl dX6_beginExpression_84 ?_
        refine z_aload0 dX6_beginExpression_87 ?_
        refine zc_getF (j := 2) b1 fl_RX6_27 rfl (by decide) (((hF.add).upj (by decide)) _ (List.mem_of_getElem? (i := 10) rfl)) dX6_beginExpression_88 ?_
        refine z_aload0 dX6_beginExpression_91 ?_
        refine zc_getI (j := 2) b1 fl_RX6_37 rfl dX6_beginExpression_92 ?_
        refine z_iconst (v := 1) dX6_beginExpression_95 (by decide) ?_
        refine z_isub dX6_beginExpression_96 ?_
        show zS _ _ _ _ _ _ _ 97 _ _ _ _ _
        refine zc_ld (j := 7) b1 rfl (by decide) hm1 (by omega) dX6_beginExpression_97 ?_
        refine zc_st (j := 7) b1 rfl (by decide) hd1 (by omega) dX6_beginExpression_98 ?_
        refine z_aload0 dX6_beginExpression_99 ?_
        refine zc_getF (j := 2) b1 fl_RX6_30 rfl (by decide) (((hF.add).upj (by decide)) _ (List.mem_of_getElem? (i := 11) rfl)) dX6_beginExpression_100 ?_
        refine z_aload0 dX6_beginExpression_103 ?_
        refine zc_getI (j := 2) b1 fl_RX6_37 rfl dX6_beginExpression_104 ?_
        refine z_aload0 dX6_beginExpression_107 ?_
        refine zc_getF (j := 2) b1 fl_RX6_30 rfl (by decide) (((hF.add).upj (by decide)) _ (List.mem_of_getElem? (i := 11) rfl)) dX6_beginExpression_108 ?_
        refine z_aload0 dX6_beginExpression_111 ?_
        refine zc_getI (j := 2) b1 fl_RX6_37 rfl dX6_beginExpression_112 ?_
        refine z_iconst (v := 1) dX6_beginExpression_115 (by decide) ?_
        refine z_isub dX6_beginExpression_116 ?_
        show zS _ _ _ _ _ _ _ 117 _ _ _ _ _
        refine zc_ald (j := 8) (t' := 1) w7 b1 rfl (by decide) (by decide) hm1 (by omega) (fun _ => rfl) (by decide) dX6_beginExpression_117 (fun i8 => ?_)
        refine zc_ast (j := 8) (t' := 1) w7 b1 rfl (by decide) (by decide) hd1 (by omega) (fun _ => rfl) i8 dX6_beginExpression_118 (fun w9 => ?_)
        refine z_aload0 dX6_beginExpression_119 ?_
        refine z_iload2 dX6_beginExpression_120 ?_
        refine zc_putI (j := 2) b1 fl_RX6_43 rfl dX6_beginExpression_121 ?_
        refine z_iconst (v := 1) dX6_beginExpression_124 (by decide) ?_
        refine z_iret dX6_beginExpression_125 rfl ?_
        rw [show bbex g R f C x nx n m = (_, _, _, _) from rfl, bbexG_t c33]
        exact ⟨rfl, rfl, rfl, by omega, by omega, w9, k1, b1⟩
    · cases c25
