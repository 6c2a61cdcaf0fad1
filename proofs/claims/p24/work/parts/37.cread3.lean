/-! The class's reader, over the block: bytes accepted. -/
abbrev dgt (x : Int32) : Prop := ¬ x < 48 ∧ ¬ 57 < x
abbrev ltr (x : Int32) : Prop := ¬ x < 97 ∧ ¬ 122 < x
theorem RV.c {b0 c K : Nat} {g : zG} {R : zRf} {C C' : zI} {n m : Nat} (h : RV b0 c K g R C n m) (h9 : C' 2 9 = C 2 9) (h1 : C' 2 1 = C 2 1) (h6 : C' 6 = C 6) : RV b0 c K g R C' n m :=
  ⟨h9.trans h.1, h1.trans h.2.1, h.2.2.1, h.2.2.2.1, fun k => by rw [h6]; exact h.2.2.2.2.1 k, h.2.2.2.2.2⟩
theorem RV.dig {b0 c K : Nat} {g : zG} {R : zRf} {C : zI} {n m : Nat} {v : Int32} (h : RV b0 c K g R C n m) : RV b0 c K g R (zup C 2 3 v) n m := h.c (zup_ne _ _ _ _ (by decide)) (zup_ne _ _ _ _ (by decide)) (zup_r (by decide))
def bnx (x : Int32) : Int32 := if x = 61 then 1 else if x = 94 then 2 else if x = 126 then 2 else if x = 38 then 3 else 0
abbrev bsg (x : Int32) : Prop := x = 33 ∨ x = 37 ∨ x = 38 ∨ x = 42 ∨ x = 43 ∨ x = 45 ∨ x = 59 ∨ x = 60 ∨ x = 61 ∨ x = 63 ∨ x = 94 ∨ x = 123 ∨ x = 126
def baccE (g : zG) (R : zRf) (f C : zI) (x : Int32) (n m : Nat) : bSt × Int32 :=
  if dgt x then (baddLeaf g R f (zup C 2 3 1) 48 (x - 48) n m, 1) else
  if ltr x then (if C 7 n >>> ((x - 97) &&& 31) &&& 1 = 0 then ((g, R, f, C), 0) else (baddLeaf g R f C 97 (x - 97) n m, 1)) else
  if x = 64 then (if R 8 n = none then ((g, R, f, C), 0) else (bbex g R f C x 0 n m, 1)) else
  if bsg x then (bbex g R f C x (bnx x) n m, 1) else ((g, R, f, C), 0)
theorem baccE_d {g : zG} {R : zRf} {f C : zI} {x : Int32} {n m : Nat} (h : dgt x) : baccE g R f C x n m = (baddLeaf g R f (zup C 2 3 1) 48 (x - 48) n m, 1) := if_pos h
theorem baccE_l0 {g : zG} {R : zRf} {f C : zI} {x : Int32} {n m : Nat} (h : ¬ dgt x) (h1 : ltr x) (h2 : C 7 n >>> ((x - 97) &&& 31) &&& 1 = 0) : baccE g R f C x n m = ((g, R, f, C), 0) := (if_neg h).trans ((if_pos h1).trans (if_pos h2))
theorem baccE_l1 {g : zG} {R : zRf} {f C : zI} {x : Int32} {n m : Nat} (h : ¬ dgt x) (h1 : ltr x) (h2 : ¬ C 7 n >>> ((x - 97) &&& 31) &&& 1 = 0) : baccE g R f C x n m = (baddLeaf g R f C 97 (x - 97) n m, 1) := (if_neg h).trans ((if_pos h1).trans (if_neg h2))
theorem baccE_a0 {g : zG} {R : zRf} {f C : zI} {x : Int32} {n m : Nat} (h : x = 64) (h2 : R 8 n = none) : baccE g R f C x n m = ((g, R, f, C), 0) := (if_neg (by rw [h]; decide)).trans ((if_neg (by rw [h]; decide)).trans ((if_pos h).trans (if_pos h2)))
theorem baccE_a1 {g : zG} {R : zRf} {f C : zI} {x : Int32} {n m : Nat} (h : x = 64) (h2 : ¬ R 8 n = none) : baccE g R f C x n m = (bbex g R f C x 0 n m, 1) := (if_neg (by rw [h]; decide)).trans ((if_neg (by rw [h]; decide)).trans ((if_pos h).trans (if_neg h2)))
theorem baccE_33 {g : zG} {R : zRf} {f C : zI} {x : Int32} {n m : Nat} (h : x = 33) : baccE g R f C x n m = (bbex g R f C x 0 n m, 1) := (if_neg (by rw [h]; decide)).trans ((if_neg (by rw [h]; decide)).trans ((if_neg (by rw [h]; decide)).trans ((if_pos (by rw [h]; decide)).trans (by rw [show bnx x = 0 from by rw [h]; decide]))))
theorem baccE_37 {g : zG} {R : zRf} {f C : zI} {x : Int32} {n m : Nat} (h : x = 37) : baccE g R f C x n m = (bbex g R f C x 0 n m, 1) := (if_neg (by rw [h]; decide)).trans ((if_neg (by rw [h]; decide)).trans ((if_neg (by rw [h]; decide)).trans ((if_pos (by rw [h]; decide)).trans (by rw [show bnx x = 0 from by rw [h]; decide]))))
theorem baccE_38 {g : zG} {R : zRf} {f C : zI} {x : Int32} {n m : Nat} (h : x = 38) : baccE g R f C x n m = (bbex g R f C x 3 n m, 1) := (if_neg (by rw [h]; decide)).trans ((if_neg (by rw [h]; decide)).trans ((if_neg (by rw [h]; decide)).trans ((if_pos (by rw [h]; decide)).trans (by rw [show bnx x = 3 from by rw [h]; decide]))))
theorem baccE_42 {g : zG} {R : zRf} {f C : zI} {x : Int32} {n m : Nat} (h : x = 42) : baccE g R f C x n m = (bbex g R f C x 0 n m, 1) := (if_neg (by rw [h]; decide)).trans ((if_neg (by rw [h]; decide)).trans ((if_neg (by rw [h]; decide)).trans ((if_pos (by rw [h]; decide)).trans (by rw [show bnx x = 0 from by rw [h]; decide]))))
theorem baccE_43 {g : zG} {R : zRf} {f C : zI} {x : Int32} {n m : Nat} (h : x = 43) : baccE g R f C x n m = (bbex g R f C x 0 n m, 1) := (if_neg (by rw [h]; decide)).trans ((if_neg (by rw [h]; decide)).trans ((if_neg (by rw [h]; decide)).trans ((if_pos (by rw [h]; decide)).trans (by rw [show bnx x = 0 from by rw [h]; decide]))))
theorem baccE_45 {g : zG} {R : zRf} {f C : zI} {x : Int32} {n m : Nat} (h : x = 45) : baccE g R f C x n m = (bbex g R f C x 0 n m, 1) := (if_neg (by rw [h]; decide)).trans ((if_neg (by rw [h]; decide)).trans ((if_neg (by rw [h]; decide)).trans ((if_pos (by rw [h]; decide)).trans (by rw [show bnx x = 0 from by rw [h]; decide]))))
theorem baccE_59 {g : zG} {R : zRf} {f C : zI} {x : Int32} {n m : Nat} (h : x = 59) : baccE g R f C x n m = (bbex g R f C x 0 n m, 1) := (if_neg (by rw [h]; decide)).trans ((if_neg (by rw [h]; decide)).trans ((if_neg (by rw [h]; decide)).trans ((if_pos (by rw [h]; decide)).trans (by rw [show bnx x = 0 from by rw [h]; decide]))))
theorem baccE_60 {g : zG} {R : zRf} {f C : zI} {x : Int32} {n m : Nat} (h : x = 60) : baccE g R f C x n m = (bbex g R f C x 0 n m, 1) := (if_neg (by rw [h]; decide)).trans ((if_neg (by rw [h]; decide)).trans ((if_neg (by rw [h]; decide)).trans ((if_pos (by rw [h]; decide)).trans (by rw [show bnx x = 0 from by rw [h]; decide]))))
theorem baccE_61 {g : zG} {R : zRf} {f C : zI} {x : Int32} {n m : Nat} (h : x = 61) : baccE g R f C x n m = (bbex g R f C x 1 n m, 1) := (if_neg (by rw [h]; decide)).trans ((if_neg (by rw [h]; decide)).trans ((if_neg (by rw [h]; decide)).trans ((if_pos (by rw [h]; decide)).trans (by rw [show bnx x = 1 from by rw [h]; decide]))))
theorem baccE_63 {g : zG} {R : zRf} {f C : zI} {x : Int32} {n m : Nat} (h : x = 63) : baccE g R f C x n m = (bbex g R f C x 0 n m, 1) := (if_neg (by rw [h]; decide)).trans ((if_neg (by rw [h]; decide)).trans ((if_neg (by rw [h]; decide)).trans ((if_pos (by rw [h]; decide)).trans (by rw [show bnx x = 0 from by rw [h]; decide]))))
theorem baccE_94 {g : zG} {R : zRf} {f C : zI} {x : Int32} {n m : Nat} (h : x = 94) : baccE g R f C x n m = (bbex g R f C x 2 n m, 1) := (if_neg (by rw [h]; decide)).trans ((if_neg (by rw [h]; decide)).trans ((if_neg (by rw [h]; decide)).trans ((if_pos (by rw [h]; decide)).trans (by rw [show bnx x = 2 from by rw [h]; decide]))))
theorem baccE_123 {g : zG} {R : zRf} {f C : zI} {x : Int32} {n m : Nat} (h : x = 123) : baccE g R f C x n m = (bbex g R f C x 0 n m, 1) := (if_neg (by rw [h]; decide)).trans ((if_neg (by rw [h]; decide)).trans ((if_neg (by rw [h]; decide)).trans ((if_pos (by rw [h]; decide)).trans (by rw [show bnx x = 0 from by rw [h]; decide]))))
theorem baccE_126 {g : zG} {R : zRf} {f C : zI} {x : Int32} {n m : Nat} (h : x = 126) : baccE g R f C x n m = (bbex g R f C x 2 n m, 1) := (if_neg (by rw [h]; decide)).trans ((if_neg (by rw [h]; decide)).trans ((if_neg (by rw [h]; decide)).trans ((if_pos (by rw [h]; decide)).trans (by rw [show bnx x = 2 from by rw [h]; decide]))))
theorem baccE_n {g : zG} {R : zRf} {f C : zI} {x : Int32} {n m : Nat} (h : ¬ dgt x) (h1 : ¬ ltr x) (h33 : ¬ x = 33) (h37 : ¬ x = 37) (h38 : ¬ x = 38) (h42 : ¬ x = 42) (h43 : ¬ x = 43) (h45 : ¬ x = 45) (h59 : ¬ x = 59) (h60 : ¬ x = 60) (h61 : ¬ x = 61) (h63 : ¬ x = 63) (h64 : ¬ x = 64) (h94 : ¬ x = 94) (h123 : ¬ x = 123) (h126 : ¬ x = 126) : baccE g R f C x n m = ((g, R, f, C), 0) := (if_neg h).trans ((if_neg h1).trans ((if_neg h64).trans (if_neg (fun q => by rcases q with q | q | q | q | q | q | q | q | q | q | q | q | q <;> contradiction))))
set_option maxRecDepth 20000 in
set_option maxHeartbeats 400000 in
theorem B_X6_acceptExpression {l : Launch} {d : Nat} {D : zD} {b0 : Nat} {g : zG} {f C : zI} {R : zRf} {c : Nat} (hW : CW b0 g c) (hF : CF c R) (hw : zOK b0 zNo (gv c g R)) (x : Int32) (n m : Nat) (hV : RV b0 c 119 g R C n m) (hd : 4 ≤ d) : zM l d D b0 mX6_acceptExpression [.ref (c + 2), .int x] (gv c g R) (cv c f C) (zCy b0 zNo c g (some (.int (baccE g R f C x n m).2)) (baccE g R f C x n m).1.1 (baccE g R f C x n m).1.2.1 (baccE g R f C x n m).1.2.2.1 (baccE g R f C x n m).1.2.2.2 3 24) := by
  have hdp := hV.1
  have hn : n ≤ 119 := hV.2.2.1
  refine zM.start zmd_X6_acceptExpression (Nat.le_of_ble_eq_true rfl) ⟨rfl, rfl, trivial⟩ [some (.ref (c + 2)), some (.int x), none] rfl ?_
  refine z_iload1 dX6_acceptExpression_0 ?_
  refine z_callSNi zmd_X11_isDigit (host := "EffectMachine") (by decide) zst_X11_isDigit (K_X11_isDigit (d := d - 1) _) rfl rfl (by omega) rfl dX6_acceptExpression_1 ?_
  refine z_if_eq (tgt := 23) dX6_acceptExpression_4 (by decide) (fun c4 => ?_) (fun c4 => ?_)
  · show zS _ _ _ _ _ _ _ 23 _ _ _ _ _
    refine z_iload1 dX6_acceptExpression_23 ?_
    refine z_callSNi zmd_X11_isLetter (host := "EffectMachine") (by decide) zst_X11_isLetter (K_X11_isLetter (d := d - 1) _) rfl rfl (by omega) rfl dX6_acceptExpression_24 ?_
    refine z_if_eq (tgt := 67) dX6_acceptExpression_27 (by decide) (fun c27 => ?_) (fun c27 => ?_)
    · show zS _ _ _ _ _ _ _ 67 _ _ _ _ _
      refine z_iload1 dX6_acceptExpression_67 ?_
      refine z_look dX6_acceptExpression_68 (by decide +kernel) (by decide +kernel) ?_
      refine ⟨fun c68_0 => ?_, fun nc68_0 => ?_⟩
      · show zS _ _ _ _ _ _ _ 192 _ _ _ _ _
        rw [baccE_33 c68_0]
        refine z_aload0 dX6_acceptExpression_192 ?_
        refine z_iload1 dX6_acceptExpression_193 ?_
        refine z_iconst (v := 0) dX6_acceptExpression_194 (by decide) ?_
        refine z_callV zmd_X6_beginExpression rfl (by decide) zl_RX6_86 zin_X6_beginExpression zsel_X6_beginExpression (B_X6_beginExpression (d := d - 1) hW hF hw _ _ n m hV (by omega)) (hW.i 2 rfl) rfl rfl (by omega) rfl dX6_acceptExpression_195 (fun r3 g3 f3 mc3 ms3 q3 => ?_)
        obtain ⟨rfl, rfl, rfl, hc3, hs3, w3, k3, b3⟩ := q3
        refine z_iret dX6_acceptExpression_198 rfl ?_
        exact ⟨rfl, rfl, rfl, by omega, by omega, w3, k3, b3⟩
      refine ⟨fun c68_1 => ?_, fun nc68_1 => ?_⟩
      · show zS _ _ _ _ _ _ _ 192 _ _ _ _ _
        rw [baccE_37 c68_1]
        refine z_aload0 dX6_acceptExpression_192 ?_
        refine z_iload1 dX6_acceptExpression_193 ?_
        refine z_iconst (v := 0) dX6_acceptExpression_194 (by decide) ?_
        refine z_callV zmd_X6_beginExpression rfl (by decide) zl_RX6_86 zin_X6_beginExpression zsel_X6_beginExpression (B_X6_beginExpression (d := d - 1) hW hF hw _ _ n m hV (by omega)) (hW.i 2 rfl) rfl rfl (by omega) rfl dX6_acceptExpression_195 (fun r4 g4 f4 mc4 ms4 q4 => ?_)
        obtain ⟨rfl, rfl, rfl, hc4, hs4, w4, k4, b4⟩ := q4
        refine z_iret dX6_acceptExpression_198 rfl ?_
        exact ⟨rfl, rfl, rfl, by omega, by omega, w4, k4, b4⟩
      refine ⟨fun c68_2 => ?_, fun nc68_2 => ?_⟩
      · show zS _ _ _ _ _ _ _ 213 _ _ _ _ _
        rw [baccE_38 c68_2]
        refine z_aload0 dX6_acceptExpression_213 ?_
        refine z_iload1 dX6_acceptExpression_214 ?_
        refine z_iconst (v := 3) dX6_acceptExpression_215 (by decide) ?_
        refine z_callV zmd_X6_beginExpression rfl (by decide) zl_RX6_86 zin_X6_beginExpression zsel_X6_beginExpression (B_X6_beginExpression (d := d - 1) hW hF hw _ _ n m hV (by omega)) (hW.i 2 rfl) rfl rfl (by omega) rfl dX6_acceptExpression_216 (fun r5 g5 f5 mc5 ms5 q5 => ?_)
        obtain ⟨rfl, rfl, rfl, hc5, hs5, w5, k5, b5⟩ := q5
        refine z_iret dX6_acceptExpression_219 rfl ?_
        exact ⟨rfl, rfl, rfl, by omega, by omega, w5, k5, b5⟩
      refine ⟨fun c68_3 => ?_, fun nc68_3 => ?_⟩
      · show zS _ _ _ _ _ _ _ 192 _ _ _ _ _
        rw [baccE_42 c68_3]
        refine z_aload0 dX6_acceptExpression_192 ?_
        refine z_iload1 dX6_acceptExpression_193 ?_
        refine z_iconst (v := 0) dX6_acceptExpression_194 (by decide) ?_
        refine z_callV zmd_X6_beginExpression rfl (by decide) zl_RX6_86 zin_X6_beginExpression zsel_X6_beginExpression (B_X6_beginExpression (d := d - 1) hW hF hw _ _ n m hV (by omega)) (hW.i 2 rfl) rfl rfl (by omega) rfl dX6_acceptExpression_195 (fun r6 g6 f6 mc6 ms6 q6 => ?_)
        obtain ⟨rfl, rfl, rfl, hc6, hs6, w6, k6, b6⟩ := q6
        refine z_iret dX6_acceptExpression_198 rfl ?_
        exact ⟨rfl, rfl, rfl, by omega, by omega, w6, k6, b6⟩
      refine ⟨fun c68_4 => ?_, fun nc68_4 => ?_⟩
      · show zS _ _ _ _ _ _ _ 192 _ _ _ _ _
        rw [baccE_43 c68_4]
        refine z_aload0 dX6_acceptExpression_192 ?_
        refine z_iload1 dX6_acceptExpression_193 ?_
        refine z_iconst (v := 0) dX6_acceptExpression_194 (by decide) ?_
        refine z_callV zmd_X6_beginExpression rfl (by decide) zl_RX6_86 zin_X6_beginExpression zsel_X6_beginExpression (B_X6_beginExpression (d := d - 1) hW hF hw _ _ n m hV (by omega)) (hW.i 2 rfl) rfl rfl (by omega) rfl dX6_acceptExpression_195 (fun r7 g7 f7 mc7 ms7 q7 => ?_)
        obtain ⟨rfl, rfl, rfl, hc7, hs7, w7, k7, b7⟩ := q7
        refine z_iret dX6_acceptExpression_198 rfl ?_
        exact ⟨rfl, rfl, rfl, by omega, by omega, w7, k7, b7⟩
      refine ⟨fun c68_5 => ?_, fun nc68_5 => ?_⟩
      · show zS _ _ _ _ _ _ _ 192 _ _ _ _ _
        rw [baccE_45 c68_5]
        refine z_aload0 dX6_acceptExpression_192 ?_
        refine z_iload1 dX6_acceptExpression_193 ?_
        refine z_iconst (v := 0) dX6_acceptExpression_194 (by decide) ?_
        refine z_callV zmd_X6_beginExpression rfl (by decide) zl_RX6_86 zin_X6_beginExpression zsel_X6_beginExpression (B_X6_beginExpression (d := d - 1) hW hF hw _ _ n m hV (by omega)) (hW.i 2 rfl) rfl rfl (by omega) rfl dX6_acceptExpression_195 (fun r8 g8 f8 mc8 ms8 q8 => ?_)
        obtain ⟨rfl, rfl, rfl, hc8, hs8, w8, k8, b8⟩ := q8
        refine z_iret dX6_acceptExpression_198 rfl ?_
        exact ⟨rfl, rfl, rfl, by omega, by omega, w8, k8, b8⟩
      refine ⟨fun c68_6 => ?_, fun nc68_6 => ?_⟩
      · show zS _ _ _ _ _ _ _ 192 _ _ _ _ _
        rw [baccE_59 c68_6]
        refine z_aload0 dX6_acceptExpression_192 ?_
        refine z_iload1 dX6_acceptExpression_193 ?_
        refine z_iconst (v := 0) dX6_acceptExpression_194 (by decide) ?_
        refine z_callV zmd_X6_beginExpression rfl (by decide) zl_RX6_86 zin_X6_beginExpression zsel_X6_beginExpression (B_X6_beginExpression (d := d - 1) hW hF hw _ _ n m hV (by omega)) (hW.i 2 rfl) rfl rfl (by omega) rfl dX6_acceptExpression_195 (fun r9 g9 f9 mc9 ms9 q9 => ?_)
        obtain ⟨rfl, rfl, rfl, hc9, hs9, w9, k9, b9⟩ := q9
        refine z_iret dX6_acceptExpression_198 rfl ?_
        exact ⟨rfl, rfl, rfl, by omega, by omega, w9, k9, b9⟩
      refine ⟨fun c68_7 => ?_, fun nc68_7 => ?_⟩
      · show zS _ _ _ _ _ _ _ 192 _ _ _ _ _
        rw [baccE_60 c68_7]
        refine z_aload0 dX6_acceptExpression_192 ?_
        refine z_iload1 dX6_acceptExpression_193 ?_
        refine z_iconst (v := 0) dX6_acceptExpression_194 (by decide) ?_
        refine z_callV zmd_X6_beginExpression rfl (by decide) zl_RX6_86 zin_X6_beginExpression zsel_X6_beginExpression (B_X6_beginExpression (d := d - 1) hW hF hw _ _ n m hV (by omega)) (hW.i 2 rfl) rfl rfl (by omega) rfl dX6_acceptExpression_195 (fun r10 g10 f10 mc10 ms10 q10 => ?_)
        obtain ⟨rfl, rfl, rfl, hc10, hs10, w10, k10, b10⟩ := q10
        refine z_iret dX6_acceptExpression_198 rfl ?_
        exact ⟨rfl, rfl, rfl, by omega, by omega, w10, k10, b10⟩
      refine ⟨fun c68_8 => ?_, fun nc68_8 => ?_⟩
      · show zS _ _ _ _ _ _ _ 199 _ _ _ _ _
        rw [baccE_61 c68_8]
        refine z_aload0 dX6_acceptExpression_199 ?_
        refine z_iload1 dX6_acceptExpression_200 ?_
        refine z_iconst (v := 1) dX6_acceptExpression_201 (by decide) ?_
        refine z_callV zmd_X6_beginExpression rfl (by decide) zl_RX6_86 zin_X6_beginExpression zsel_X6_beginExpression (B_X6_beginExpression (d := d - 1) hW hF hw _ _ n m hV (by omega)) (hW.i 2 rfl) rfl rfl (by omega) rfl dX6_acceptExpression_202 (fun r11 g11 f11 mc11 ms11 q11 => ?_)
        obtain ⟨rfl, rfl, rfl, hc11, hs11, w11, k11, b11⟩ := q11
        refine z_iret dX6_acceptExpression_205 rfl ?_
        exact ⟨rfl, rfl, rfl, by omega, by omega, w11, k11, b11⟩
      refine ⟨fun c68_9 => ?_, fun nc68_9 => ?_⟩
      · show zS _ _ _ _ _ _ _ 192 _ _ _ _ _
        rw [baccE_63 c68_9]
        refine z_aload0 dX6_acceptExpression_192 ?_
        refine z_iload1 dX6_acceptExpression_193 ?_
        refine z_iconst (v := 0) dX6_acceptExpression_194 (by decide) ?_
        refine z_callV zmd_X6_beginExpression rfl (by decide) zl_RX6_86 zin_X6_beginExpression zsel_X6_beginExpression (B_X6_beginExpression (d := d - 1) hW hF hw _ _ n m hV (by omega)) (hW.i 2 rfl) rfl rfl (by omega) rfl dX6_acceptExpression_195 (fun r12 g12 f12 mc12 ms12 q12 => ?_)
        obtain ⟨rfl, rfl, rfl, hc12, hs12, w12, k12, b12⟩ := q12
        refine z_iret dX6_acceptExpression_198 rfl ?_
        exact ⟨rfl, rfl, rfl, by omega, by omega, w12, k12, b12⟩
      refine ⟨fun c68_10 => ?_, fun nc68_10 => ?_⟩
      · show zS _ _ _ _ _ _ _ 220 _ _ _ _ _
        refine z_aload0 dX6_acceptExpression_220 ?_
        refine zc_getF (j := 2) hW fl_RX6_30 rfl (by decide) (hF _ (List.mem_of_getElem? (i := 11) rfl)) dX6_acceptExpression_221 ?_
        refine z_aload0 dX6_acceptExpression_224 ?_
        refine zc_getI (j := 2) hW fl_RX6_37 rfl dX6_acceptExpression_225 ?_
        refine zc_ald (j := 8) (t' := 1) hw hW rfl (by decide) (by decide) hdp (by omega) (fun _ => rfl) (by decide) dX6_acceptExpression_228 (fun i13 => ?_)
        refine z_ifnull (tgt := 245) dX6_acceptExpression_229 (by decide) (fun c229 => ?_) (fun a229 c229 => ?_)
        · show zS _ _ _ _ _ _ _ 245 _ _ _ _ _
          refine z_iconst (v := 0) dX6_acceptExpression_245 (by decide) ?_
          refine z_iret dX6_acceptExpression_246 rfl ?_
          rw [baccE_a0 c68_10 c229]
          exact ⟨rfl, rfl, rfl, by omega, by omega, hw, zLe.rf, hW⟩
        · show zS _ _ _ _ _ _ _ 232 _ _ _ _ _
          rw [baccE_a1 c68_10 (by rw [c229]; intro q; cases q)]
          refine z_aload0 dX6_acceptExpression_232 ?_
          refine z_iload1 dX6_acceptExpression_233 ?_
          refine z_iconst (v := 0) dX6_acceptExpression_234 (by decide) ?_
          refine z_callV zmd_X6_beginExpression rfl (by decide) zl_RX6_86 zin_X6_beginExpression zsel_X6_beginExpression (B_X6_beginExpression (d := d - 1) hW hF hw _ _ n m hV (by omega)) (hW.i 2 rfl) rfl rfl (by omega) rfl dX6_acceptExpression_235 (fun r14 g14 f14 mc14 ms14 q14 => ?_)
          obtain ⟨rfl, rfl, rfl, hc14, hs14, w14, k14, b14⟩ := q14
          refine z_if_eq (tgt := 245) dX6_acceptExpression_238 (by decide) (fun c238 => ?_) (fun c238 => ?_)
          · exact absurd c238 (by decide)
          · show zS _ _ _ _ _ _ _ 241 _ _ _ _ _
            refine z_iconst (v := 1) dX6_acceptExpression_241 (by decide) ?_
            refine z_goto (tgt := 246) dX6_acceptExpression_242 (by decide) ?_
            show zS _ _ _ _ _ _ _ 246 _ _ _ _ _
            refine z_iret dX6_acceptExpression_246 rfl ?_
            exact ⟨rfl, rfl, rfl, by omega, by omega, w14, k14, b14⟩
      refine ⟨fun c68_11 => ?_, fun nc68_11 => ?_⟩
      · show zS _ _ _ _ _ _ _ 206 _ _ _ _ _
        rw [baccE_94 c68_11]
        refine z_aload0 dX6_acceptExpression_206 ?_
        refine z_iload1 dX6_acceptExpression_207 ?_
        refine z_iconst (v := 2) dX6_acceptExpression_208 (by decide) ?_
        refine z_callV zmd_X6_beginExpression rfl (by decide) zl_RX6_86 zin_X6_beginExpression zsel_X6_beginExpression (B_X6_beginExpression (d := d - 1) hW hF hw _ _ n m hV (by omega)) (hW.i 2 rfl) rfl rfl (by omega) rfl dX6_acceptExpression_209 (fun r15 g15 f15 mc15 ms15 q15 => ?_)
        obtain ⟨rfl, rfl, rfl, hc15, hs15, w15, k15, b15⟩ := q15
        refine z_iret dX6_acceptExpression_212 rfl ?_
        exact ⟨rfl, rfl, rfl, by omega, by omega, w15, k15, b15⟩
      refine ⟨fun c68_12 => ?_, fun nc68_12 => ?_⟩
      · show zS _ _ _ _ _ _ _ 192 _ _ _ _ _
        rw [baccE_123 c68_12]
        refine z_aload0 dX6_acceptExpression_192 ?_
        refine z_iload1 dX6_acceptExpression_193 ?_
        refine z_iconst (v := 0) dX6_acceptExpression_194 (by decide) ?_
        refine z_callV zmd_X6_beginExpression rfl (by decide) zl_RX6_86 zin_X6_beginExpression zsel_X6_beginExpression (B_X6_beginExpression (d := d - 1) hW hF hw _ _ n m hV (by omega)) (hW.i 2 rfl) rfl rfl (by omega) rfl dX6_acceptExpression_195 (fun r16 g16 f16 mc16 ms16 q16 => ?_)
        obtain ⟨rfl, rfl, rfl, hc16, hs16, w16, k16, b16⟩ := q16
        refine z_iret dX6_acceptExpression_198 rfl ?_
        exact ⟨rfl, rfl, rfl, by omega, by omega, w16, k16, b16⟩
      refine ⟨fun c68_13 => ?_, fun nc68_13 => ?_⟩
      · show zS _ _ _ _ _ _ _ 206 _ _ _ _ _
        rw [baccE_126 c68_13]
        refine z_aload0 dX6_acceptExpression_206 ?_
        refine z_iload1 dX6_acceptExpression_207 ?_
        refine z_iconst (v := 2) dX6_acceptExpression_208 (by decide) ?_
        refine z_callV zmd_X6_beginExpression rfl (by decide) zl_RX6_86 zin_X6_beginExpression zsel_X6_beginExpression (B_X6_beginExpression (d := d - 1) hW hF hw _ _ n m hV (by omega)) (hW.i 2 rfl) rfl rfl (by omega) rfl dX6_acceptExpression_209 (fun r17 g17 f17 mc17 ms17 q17 => ?_)
        obtain ⟨rfl, rfl, rfl, hc17, hs17, w17, k17, b17⟩ := q17
        refine z_iret dX6_acceptExpression_212 rfl ?_
        exact ⟨rfl, rfl, rfl, by omega, by omega, w17, k17, b17⟩
      show zS _ _ _ _ _ _ _ 247 _ _ _ _ _
      rw [baccE_n (zB_f c4) (zB_f c27) nc68_0 nc68_1 nc68_2 nc68_3 nc68_4 nc68_5 nc68_6 nc68_7 nc68_8 nc68_9 nc68_10 nc68_11 nc68_12 nc68_13]
      refine z_iconst (v := 0) dX6_acceptExpression_247 (by decide) ?_
      refine z_iret dX6_acceptExpression_248 rfl ?_
      exact ⟨rfl, rfl, rfl, by omega, by omega, hw, zLe.rf, hW⟩
    · show zS _ _ _ _ _ _ _ 30 _ _ _ _ _
      refine z_iload1 dX6_acceptExpression_30 ?_
      refine z_bipush (v := 97) dX6_acceptExpression_31 (by decide) ?_
      refine z_isub dX6_acceptExpression_33 ?_
      refine z_istore2 dX6_acceptExpression_34 ?_
      refine z_aload0 dX6_acceptExpression_35 ?_
      refine zc_getF (j := 2) hW fl_RX6_27 rfl (by decide) (hF _ (List.mem_of_getElem? (i := 10) rfl)) dX6_acceptExpression_36 ?_
      refine z_aload0 dX6_acceptExpression_39 ?_
      refine zc_getI (j := 2) hW fl_RX6_37 rfl dX6_acceptExpression_40 ?_
      refine zc_ld (j := 7) hW rfl (by decide) hdp (by omega) dX6_acceptExpression_43 ?_
      refine z_iload2 dX6_acceptExpression_44 ?_
      refine z_ishr dX6_acceptExpression_45 ?_
      show zS _ _ _ _ _ _ _ 46 _ _ _ _ _
      refine z_iconst (v := 1) dX6_acceptExpression_46 (by decide) ?_
      refine z_iand dX6_acceptExpression_47 ?_
      refine z_if_eq (tgt := 65) dX6_acceptExpression_48 (by decide) (fun c48 => ?_) (fun c48 => ?_)
      · show zS _ _ _ _ _ _ _ 65 _ _ _ _ _
        refine z_iconst (v := 0) dX6_acceptExpression_65 (by decide) ?_
        refine z_iret dX6_acceptExpression_66 rfl ?_
        rw [baccE_l0 (zB_f c4) (zB_t c27) c48]
        exact ⟨rfl, rfl, rfl, by omega, by omega, hw, zLe.rf, hW⟩
      · show zS _ _ _ _ _ _ _ 51 _ _ _ _ _
        rw [baccE_l1 (zB_f c4) (zB_t c27) c48]
        refine z_aload0 dX6_acceptExpression_51 ?_
        refine z_bipush (v := 97) dX6_acceptExpression_52 (by decide) ?_
        refine z_iload2 dX6_acceptExpression_54 ?_
        refine z_callV zmd_X6_addLeaf rfl (by decide) zl_RX6_79 zin_X6_addLeaf zsel_X6_addLeaf (B_X6_addLeaf (d := d - 1) hW hF hw _ _ n m hV (by omega)) (hW.i 2 rfl) rfl rfl (by omega) rfl dX6_acceptExpression_55 (fun r18 g18 f18 mc18 ms18 q18 => ?_)
        obtain ⟨rfl, rfl, rfl, hc18, hs18, w18, k18, b18⟩ := q18
        refine z_if_eq (tgt := 65) dX6_acceptExpression_58 (by decide) (fun c58 => ?_) (fun c58 => ?_)
        · exact absurd c58 (by decide)
        · show zS _ _ _ _ _ _ _ 61 _ _ _ _ _
          refine z_iconst (v := 1) dX6_acceptExpression_61 (by decide) ?_
          refine z_goto (tgt := 66) dX6_acceptExpression_62 (by decide) ?_
          show zS _ _ _ _ _ _ _ 66 _ _ _ _ _
          refine z_iret dX6_acceptExpression_66 rfl ?_
          exact ⟨rfl, rfl, rfl, by omega, by omega, w18, k18, b18⟩
  · show zS _ _ _ _ _ _ _ 7 _ _ _ _ _
    refine z_aload0 dX6_acceptExpression_7 ?_
    refine z_iconst (v := 1) dX6_acceptExpression_8 (by decide) ?_
    refine zc_putI (j := 2) hW fl_RX6_40 rfl dX6_acceptExpression_9 ?_
    rw [baccE_d (zB_t c4)]
    refine z_aload0 dX6_acceptExpression_12 ?_
    refine z_bipush (v := 48) dX6_acceptExpression_13 (by decide) ?_
    refine z_iload1 dX6_acceptExpression_15 ?_
    refine z_bipush (v := 48) dX6_acceptExpression_16 (by decide) ?_
    refine z_isub dX6_acceptExpression_18 ?_
    refine z_callV zmd_X6_addLeaf rfl (by decide) zl_RX6_79 zin_X6_addLeaf zsel_X6_addLeaf (B_X6_addLeaf (d := d - 1) hW hF hw _ _ n m hV.dig (by omega)) (hW.i 2 rfl) rfl rfl (by omega) rfl dX6_acceptExpression_19 (fun r19 g19 f19 mc19 ms19 q19 => ?_)
    obtain ⟨rfl, rfl, rfl, hc19, hs19, w19, k19, b19⟩ := q19
    refine z_iret dX6_acceptExpression_22 rfl ?_
    exact ⟨rfl, rfl, rfl, by omega, by omega, w19, k19, b19⟩
theorem CF.accE {c : Nat} {g : zG} {R : zRf} {f C : zI} {x : Int32} {n m : Nat} (h : CF c R) : CF c (baccE g R f C x n m).1.2.1 := by
  unfold baccE
  repeat' split
  all_goals first
    | exact h.leaf
    | exact h.bex
    | exact h
def bvarA (g : zG) (R : zRf) (f C : zI) (x : Int32) (n : Nat) : bSt × Int32 :=
  if ltr x ∧ ¬ C 2 9 < 1 then (match g.2.2.2 ((R 4 n).getD 0) 6 with
    | none => ((g, R, zup f ((R 4 n).getD 0) 1 (x - 97), zup C 2 2 0), 1)
    | some b => ((g, R, zup f b (tn (C 6 n)) (x - 97), zup (zup C 7 n (C 7 (n - 1) ||| 1 <<< ((x - 97) &&& 31))) 2 2 0), 1)) else ((g, R, f, C), 0)
theorem bvarA_n {g : zG} {R : zRf} {f C : zI} {x : Int32} {n : Nat} (h : ltr x) (h1 : ¬ C 2 9 < 1) (h2 : g.2.2.2 ((R 4 n).getD 0) 6 = none) : bvarA g R f C x n = ((g, R, zup f ((R 4 n).getD 0) 1 (x - 97), zup C 2 2 0), 1) := by
  unfold bvarA; rw [if_pos ⟨h, h1⟩, h2]
theorem bvarA_s {g : zG} {R : zRf} {f C : zI} {x : Int32} {n b : Nat} (h : ltr x) (h1 : ¬ C 2 9 < 1) (h2 : g.2.2.2 ((R 4 n).getD 0) 6 = some b) : bvarA g R f C x n = ((g, R, zup f b (tn (C 6 n)) (x - 97), zup (zup C 7 n (C 7 (n - 1) ||| 1 <<< ((x - 97) &&& 31))) 2 2 0), 1) := by
  unfold bvarA; rw [if_pos ⟨h, h1⟩, h2]
theorem bvarA_0 {g : zG} {R : zRf} {f C : zI} {x : Int32} {n : Nat} (h : ¬ (ltr x ∧ ¬ C 2 9 < 1)) : bvarA g R f C x n = ((g, R, f, C), 0) := if_neg h
theorem npos1 {C : zI} {n : Nat} (hdp : C 2 9 = nI n) (hn : n ≤ 120) (h : ¬ C 2 9 < 1) : 1 ≤ n := by
  rw [hdp] at h
  rcases Nat.lt_or_ge n 1 with q | q
  · exact absurd (nI_lt (b := 1) q (by decide)) h
  · exact q
set_option maxRecDepth 20000 in
set_option maxHeartbeats 400000 in
theorem B_X6_acceptVariable {l : Launch} {d : Nat} {D : zD} {b0 : Nat} {g : zG} {f C : zI} {R : zRf} {c : Nat} (hW : CW b0 g c) (hF : CF c R) (hw : zOK b0 zNo (gv c g R)) (x : Int32) (n m : Nat) (hV : RV b0 c 119 g R C n m) (hd : 1 ≤ d) : zM l d D b0 mX6_acceptVariable [.ref (c + 2), .int x] (gv c g R) (cv c f C) (zCy b0 zNo c g (some (.int (bvarA g R f C x n).2)) (bvarA g R f C x n).1.1 (bvarA g R f C x n).1.2.1 (bvarA g R f C x n).1.2.2.1 (bvarA g R f C x n).1.2.2.2 0 0) := by
  obtain ⟨hdp, hct, hn, hm, h6, hop, hal, hE⟩ := hV
  have h61 := (h6 n).1
  refine zM.start zmd_X6_acceptVariable (Nat.le_of_ble_eq_true rfl) ⟨rfl, rfl, trivial⟩ [some (.ref (c + 2)), some (.int x), none, none] rfl ?_
  refine z_iload1 dX6_acceptVariable_0 ?_
  refine z_callSNi zmd_X11_isLetter (host := "EffectMachine") (by decide) zst_X11_isLetter (K_X11_isLetter (d := d - 1) _) rfl rfl (by omega) rfl dX6_acceptVariable_1 ?_
  refine z_if_eq (tgt := 15) dX6_acceptVariable_4 (by decide) (fun c4 => ?_) (fun c4 => ?_)
  · show zS _ _ _ _ _ _ _ 15 _ _ _ _ _
    refine z_iconst (v := 0) dX6_acceptVariable_15 (by decide) ?_
    refine z_iret dX6_acceptVariable_16 rfl ?_
    rw [bvarA_0 (fun q => zB_f c4 q.1)]
    exact ⟨rfl, rfl, rfl, by omega, by omega, hw, zLe.rf, hW⟩
  · show zS _ _ _ _ _ _ _ 7 _ _ _ _ _
    refine z_aload0 dX6_acceptVariable_7 ?_
    refine zc_getI (j := 2) hW fl_RX6_37 rfl dX6_acceptVariable_8 ?_
    refine z_iconst (v := 1) dX6_acceptVariable_11 (by decide) ?_
    refine z_icmp_ge (tgt := 17) dX6_acceptVariable_12 (by decide) (fun c12 => ?_) (fun c12 => ?_)
    · show zS _ _ _ _ _ _ _ 17 _ _ _ _ _
      have hn1 : 1 ≤ n := npos1 hdp (by omega) c12
      have hopn := hop n hn1 (Nat.le_refl _)
      have hin := hw.get (t := 14) (t' := 1) (k := n) (hW.i 4 rfl).gv rfl (by decide) (by rw [gv_at (by decide)]; exact hopn)
      have he := hE _ hin
      have hk1 : C 2 9 - 1 = nI (n - 1) := by rw [hdp]; exact ixS (a := n) (b := 1) rfl rfl hn1
      refine z_iload1 dX6_acceptVariable_17 ?_
      refine z_bipush (v := 97) dX6_acceptVariable_18 (by decide) ?_
      refine z_isub dX6_acceptVariable_20 ?_
      refine z_istore2 dX6_acceptVariable_21 ?_
      refine z_aload0 dX6_acceptVariable_22 ?_
      refine zc_getF (j := 2) hW fl_RX6_17 rfl (by decide) (hF _ (List.mem_of_getElem? (i := 7) rfl)) dX6_acceptVariable_23 ?_
      refine z_aload0 dX6_acceptVariable_26 ?_
      refine zc_getI (j := 2) hW fl_RX6_37 rfl dX6_acceptVariable_27 ?_
      refine zc_alds (j := 4) (t' := 1) hw hW rfl (by decide) (by decide) hdp (by omega) (fun _ => rfl) (by decide) hopn dX6_acceptVariable_30 (fun i2 => ?_)
      refine z_astore3 dX6_acceptVariable_31 ?_
      refine z_aload3 dX6_acceptVariable_32 ?_
      show zS _ _ _ _ _ _ _ 33 _ _ _ _ _
      refine zd_getN hw hW fl_RX6_125 i2 (by decide) (by decide) dX6_acceptVariable_33 (fun i3 => ?_)
      refine z_ifnonnull (tgt := 47) dX6_acceptVariable_36 (by decide) (fun a36 c36 => ?_) (fun c36 => ?_)
      · show zS _ _ _ _ _ _ _ 47 _ _ _ _ _
        rw [bvarA_s (zB_t c4) c12 c36]
        refine z_aload3 dX6_acceptVariable_47 ?_
        refine zd_getS hw hW fl_RX6_125 i2 (by decide) (by decide) c36 dX6_acceptVariable_48 (fun i4 => ?_)
        refine z_aload0 dX6_acceptVariable_51 ?_
        refine zc_getF (j := 2) hW fl_RX6_24 rfl (by decide) (hF _ (List.mem_of_getElem? (i := 9) rfl)) dX6_acceptVariable_52 ?_
        refine z_aload0 dX6_acceptVariable_55 ?_
        refine zc_getI (j := 2) hW fl_RX6_37 rfl dX6_acceptVariable_56 ?_
        refine zc_ld (j := 6) hW rfl (by decide) hdp (by omega) dX6_acceptVariable_59 ?_
        refine z_iload2 dX6_acceptVariable_60 ?_
        refine zd_st0 (he.2 _ c36).2 i4 (he.2 _ c36).1 (h6 n).2 (by omega) (by decide) dX6_acceptVariable_61 ?_
        refine z_aload0 dX6_acceptVariable_62 ?_
        refine zc_getF (j := 2) hW fl_RX6_27 rfl (by decide) (hF _ (List.mem_of_getElem? (i := 10) rfl)) dX6_acceptVariable_63 ?_
        show zS _ _ _ _ _ _ _ 66 _ _ _ _ _
        refine z_aload0 dX6_acceptVariable_66 ?_
        refine zc_getI (j := 2) hW fl_RX6_37 rfl dX6_acceptVariable_67 ?_
        refine z_aload0 dX6_acceptVariable_70 ?_
        refine zc_getF (j := 2) hW fl_RX6_27 rfl (by decide) (hF _ (List.mem_of_getElem? (i := 10) rfl)) dX6_acceptVariable_71 ?_
        refine z_aload0 dX6_acceptVariable_74 ?_
        refine zc_getI (j := 2) hW fl_RX6_37 rfl dX6_acceptVariable_75 ?_
        refine z_iconst (v := 1) dX6_acceptVariable_78 (by decide) ?_
        refine z_isub dX6_acceptVariable_79 ?_
        refine zc_ld (j := 7) hW rfl (by decide) hk1 (by omega) dX6_acceptVariable_80 ?_
        refine z_iconst (v := 1) dX6_acceptVariable_81 (by decide) ?_
        refine z_iload2 dX6_acceptVariable_82 ?_
        refine z_ishl dX6_acceptVariable_83 ?_
        show zS _ _ _ _ _ _ _ 84 _ _ _ _ _
        refine z_ior dX6_acceptVariable_84 ?_
        refine zc_st (j := 7) hW rfl (by decide) hdp (by omega) dX6_acceptVariable_85 ?_
        refine z_aload0 dX6_acceptVariable_86 ?_
        refine z_iconst (v := 0) dX6_acceptVariable_87 (by decide) ?_
        refine zc_putI (j := 2) hW fl_RX6_43 rfl dX6_acceptVariable_88 ?_
        refine z_iconst (v := 1) dX6_acceptVariable_91 (by decide) ?_
        refine z_iret dX6_acceptVariable_92 rfl ?_
        exact ⟨rfl, rfl, rfl, by omega, by omega, hw, zLe.rf, hW⟩
      · show zS _ _ _ _ _ _ _ 39 _ _ _ _ _
        rw [bvarA_n (zB_t c4) c12 c36]
        refine z_aload3 dX6_acceptVariable_39 ?_
        refine z_iload2 dX6_acceptVariable_40 ?_
        refine zd_putI hW fl_RX6_63 i2 (by decide) dX6_acceptVariable_41 ?_
        refine z_goto (tgt := 86) dX6_acceptVariable_44 (by decide) ?_
        show zS _ _ _ _ _ _ _ 86 _ _ _ _ _
        refine z_aload0 dX6_acceptVariable_86 ?_
        refine z_iconst (v := 0) dX6_acceptVariable_87 (by decide) ?_
        refine zc_putI (j := 2) hW fl_RX6_43 rfl dX6_acceptVariable_88 ?_
        refine z_iconst (v := 1) dX6_acceptVariable_91 (by decide) ?_
        refine z_iret dX6_acceptVariable_92 rfl ?_
        exact ⟨rfl, rfl, rfl, by omega, by omega, hw, zLe.rf, hW⟩
    · show zS _ _ _ _ _ _ _ 15 _ _ _ _ _
      refine z_iconst (v := 0) dX6_acceptVariable_15 (by decide) ?_
      refine z_iret dX6_acceptVariable_16 rfl ?_
      rw [bvarA_0 (fun q => q.2 c12)]
      exact ⟨rfl, rfl, rfl, by omega, by omega, hw, zLe.rf, hW⟩
def bmarkA (g : zG) (R : zRf) (f C : zI) (x lo sz : Int32) (n : Nat) : bSt × Int32 :=
  if (¬ x < lo ∧ x < lo + sz) ∧ ¬ C 2 9 < 1 then ((g, R, zup f ((R 4 n).getD 0) 1 (x - lo), zup C 2 2 0), 1) else ((g, R, f, C), 0)
set_option maxRecDepth 20000 in
set_option maxHeartbeats 400000 in
theorem B_X6_acceptMark {l : Launch} {d : Nat} {D : zD} {b0 : Nat} {g : zG} {f C : zI} {R : zRf} {c : Nat} (hW : CW b0 g c) (hF : CF c R) (hw : zOK b0 zNo (gv c g R)) (x lo sz : Int32) (n m : Nat) (hV : RV b0 c 119 g R C n m) : zM l d D b0 mX6_acceptMark [.ref (c + 2), .int x, .int lo, .int sz] (gv c g R) (cv c f C) (zCy b0 zNo c g (some (.int (bmarkA g R f C x lo sz n).2)) (bmarkA g R f C x lo sz n).1.1 (bmarkA g R f C x lo sz n).1.2.1 (bmarkA g R f C x lo sz n).1.2.2.1 (bmarkA g R f C x lo sz n).1.2.2.2 0 0) := by
  obtain ⟨hdp, hct, hn, hm, h6, hop, hal, hE⟩ := hV
  refine zM.start zmd_X6_acceptMark (Nat.le_of_ble_eq_true rfl) ⟨rfl, rfl, rfl, rfl, trivial⟩ [some (.ref (c + 2)), some (.int x), some (.int lo), some (.int sz)] rfl ?_
  refine z_iload1 dX6_acceptMark_0 ?_
  refine z_iload2 dX6_acceptMark_1 ?_
  refine z_icmp_lt (tgt := 20) dX6_acceptMark_2 (by decide) (fun c2 => ?_) (fun c2 => ?_)
  · show zS _ _ _ _ _ _ _ 20 _ _ _ _ _
    refine z_iconst (v := 0) dX6_acceptMark_20 (by decide) ?_
    refine z_iret dX6_acceptMark_21 rfl ?_
    rw [show bmarkA g R f C x lo sz n = ((g, R, f, C), 0) from if_neg (fun q => q.1.1 c2)]
    exact ⟨rfl, rfl, rfl, by omega, by omega, hw, zLe.rf, hW⟩
  · show zS _ _ _ _ _ _ _ 5 _ _ _ _ _
    refine z_iload1 dX6_acceptMark_5 ?_
    refine z_iload2 dX6_acceptMark_6 ?_
    refine z_iload3 dX6_acceptMark_7 ?_
    refine z_iadd dX6_acceptMark_8 ?_
    refine z_icmp_ge (tgt := 20) dX6_acceptMark_9 (by decide) (fun c9 => ?_) (fun c9 => ?_)
    · show zS _ _ _ _ _ _ _ 20 _ _ _ _ _
      refine z_iconst (v := 0) dX6_acceptMark_20 (by decide) ?_
      refine z_iret dX6_acceptMark_21 rfl ?_
      rw [show bmarkA g R f C x lo sz n = ((g, R, f, C), 0) from if_neg (fun q => absurd q.1.2 c9)]
      exact ⟨rfl, rfl, rfl, by omega, by omega, hw, zLe.rf, hW⟩
    · show zS _ _ _ _ _ _ _ 12 _ _ _ _ _
      refine z_aload0 dX6_acceptMark_12 ?_
      refine zc_getI (j := 2) hW fl_RX6_37 rfl dX6_acceptMark_13 ?_
      refine z_iconst (v := 1) dX6_acceptMark_16 (by decide) ?_
      refine z_icmp_ge (tgt := 22) dX6_acceptMark_17 (by decide) (fun c17 => ?_) (fun c17 => ?_)
      · show zS _ _ _ _ _ _ _ 22 _ _ _ _ _
        have hn1 : 1 ≤ n := npos1 hdp (by omega) c17
        have hopn := hop n hn1 (Nat.le_refl _)
        have hin := hw.get (t := 14) (t' := 1) (k := n) (hW.i 4 rfl).gv rfl (by decide) (by rw [gv_at (by decide)]; exact hopn)
        have he := hE _ hin
        have hk1 : C 2 9 - 1 = nI (n - 1) := by rw [hdp]; exact ixS (a := n) (b := 1) rfl rfl hn1
        rw [show bmarkA g R f C x lo sz n = _ from if_pos ⟨⟨c2, c9⟩, c17⟩]
        refine z_aload0 dX6_acceptMark_22 ?_
        refine zc_getF (j := 2) hW fl_RX6_17 rfl (by decide) (hF _ (List.mem_of_getElem? (i := 7) rfl)) dX6_acceptMark_23 ?_
        refine z_aload0 dX6_acceptMark_26 ?_
        refine zc_getI (j := 2) hW fl_RX6_37 rfl dX6_acceptMark_27 ?_
        refine zc_alds (j := 4) (t' := 1) hw hW rfl (by decide) (by decide) hdp (by omega) (fun _ => rfl) (by decide) hopn dX6_acceptMark_30 (fun i1 => ?_)
        refine z_iload1 dX6_acceptMark_31 ?_
        refine z_iload2 dX6_acceptMark_32 ?_
        refine z_isub dX6_acceptMark_33 ?_
        refine zd_putI hW fl_RX6_63 i1 (by decide) dX6_acceptMark_34 ?_
        refine z_aload0 dX6_acceptMark_37 ?_
        refine z_iconst (v := 0) dX6_acceptMark_38 (by decide) ?_
        show zS _ _ _ _ _ _ _ 39 _ _ _ _ _
        refine zc_putI (j := 2) hW fl_RX6_43 rfl dX6_acceptMark_39 ?_
        refine z_iconst (v := 1) dX6_acceptMark_42 (by decide) ?_
        refine z_iret dX6_acceptMark_43 rfl ?_
        exact ⟨rfl, rfl, rfl, by omega, by omega, hw, zLe.rf, hW⟩
      · show zS _ _ _ _ _ _ _ 20 _ _ _ _ _
        refine z_iconst (v := 0) dX6_acceptMark_20 (by decide) ?_
        refine z_iret dX6_acceptMark_21 rfl ?_
        rw [show bmarkA g R f C x lo sz n = ((g, R, f, C), 0) from if_neg (fun q => q.2 c17)]
        exact ⟨rfl, rfl, rfl, by omega, by omega, hw, zLe.rf, hW⟩
def bclsA (g : zG) (R : zRf) (f C : zI) (x : Int32) (n : Nat) : bSt × Int32 :=
  if C 2 9 < 1 then ((g, R, f, C), 0) else
  if x = 125 then ((g, R, f, bepA f R (n - 1) (zup C 2 9 (C 2 9 - 1))), 1) else
  if x = 58 then (if bclause g ((R 4 n).getD 0) 6 = none then ((g, zup R 8 n (R 8 (n - 1)), f, zup (zup C 6 n 6) 2 2 1), 1) else ((g, R, f, C), 0)) else
  if ¬ x - 65 < 0 ∧ x - 65 < 6 then (if bclause g ((R 4 n).getD 0) (x - 65) = none then ((g, zup R 8 n (some ((R 4 n).getD 0)), f, zup (zup C 6 n (x - 65)) 2 2 1), 1) else ((g, R, f, C), 0)) else ((g, R, f, C), 0)
set_option maxRecDepth 20000 in
set_option maxHeartbeats 400000 in
theorem B_X6_acceptClause {l : Launch} {d : Nat} {D : zD} {b0 : Nat} {g : zG} {f C : zI} {R : zRf} {c : Nat} (hW : CW b0 g c) (hF : CF c R) (hw : zOK b0 zNo (gv c g R)) (x : Int32) (n m : Nat) (hV : RV b0 c 119 g R C n m) (hd : 2 ≤ d) : zM l d D b0 mX6_acceptClause [.ref (c + 2), .int x] (gv c g R) (cv c f C) (zCy b0 zNo c g (some (.int (bclsA g R f C x n).2)) (bclsA g R f C x n).1.1 (bclsA g R f C x n).1.2.1 (bclsA g R f C x n).1.2.2.1 (bclsA g R f C x n).1.2.2.2 0 0) := by
  obtain ⟨hdp, hct, hn, hm, h6, hop, hal, hE⟩ := hV
  refine zM.start zmd_X6_acceptClause (Nat.le_of_ble_eq_true rfl) ⟨rfl, rfl, trivial⟩ [some (.ref (c + 2)), some (.int x), none] rfl ?_
  refine z_aload0 dX6_acceptClause_0 ?_
  refine zc_getI (j := 2) hW fl_RX6_37 rfl dX6_acceptClause_1 ?_
  refine z_iconst (v := 1) dX6_acceptClause_4 (by decide) ?_
  refine z_icmp_ge (tgt := 10) dX6_acceptClause_5 (by decide) (fun c5 => ?_) (fun c5 => ?_)
  · show zS _ _ _ _ _ _ _ 10 _ _ _ _ _
    have hn1 : 1 ≤ n := npos1 hdp (by omega) c5
    have hopn := hop n hn1 (Nat.le_refl _)
    have hin := hw.get (t := 14) (t' := 1) (k := n) (hW.i 4 rfl).gv rfl (by decide) (by rw [gv_at (by decide)]; exact hopn)
    have he := hE _ hin
    have hk1 : C 2 9 - 1 = nI (n - 1) := by rw [hdp]; exact ixS (a := n) (b := 1) rfl rfl hn1
    refine z_iload1 dX6_acceptClause_10 ?_
    refine z_bipush (v := 125) dX6_acceptClause_11 (by decide) ?_
    refine z_icmp_ne (tgt := 32) dX6_acceptClause_13 (by decide) (fun c13 => ?_) (fun c13 => ?_)
    · show zS _ _ _ _ _ _ _ 32 _ _ _ _ _
      refine z_iload1 dX6_acceptClause_32 ?_
      refine z_bipush (v := 58) dX6_acceptClause_33 (by decide) ?_
      refine z_icmp_ne (tgt := 43) dX6_acceptClause_35 (by decide) (fun c35 => ?_) (fun c35 => ?_)
      · show zS _ _ _ _ _ _ _ 43 _ _ _ _ _
        refine z_iload1 dX6_acceptClause_43 ?_
        refine z_bipush (v := 65) dX6_acceptClause_44 (by decide) ?_
        refine z_isub dX6_acceptClause_46 ?_
        refine z_istore2 dX6_acceptClause_47 ?_
        refine z_iload1 dX6_acceptClause_48 ?_
        refine z_bipush (v := 58) dX6_acceptClause_49 (by decide) ?_
        refine z_icmp_eq (tgt := 61) dX6_acceptClause_51 (by decide) (fun c51 => ?_) (fun c51 => ?_)
        · exact absurd c51 c35
        · show zS _ _ _ _ _ _ _ 54 _ _ _ _ _
          refine z_iload2 dX6_acceptClause_54 ?_
          refine z_callSNi zmd_X11_isOperation (host := "EffectMachine") (by decide) zst_X11_isOperation (K_X11_isOperation (d := d - 1) _) rfl rfl (by omega) rfl dX6_acceptClause_55 ?_
          refine z_if_eq (tgt := 77) dX6_acceptClause_58 (by decide) (fun c58 => ?_) (fun c58 => ?_)
          · show zS _ _ _ _ _ _ _ 77 _ _ _ _ _
            refine z_iconst (v := 0) dX6_acceptClause_77 (by decide) ?_
            refine z_iret dX6_acceptClause_78 rfl ?_
            rw [show bclsA g R f C x n = _ from (if_neg c5).trans ((if_neg c13).trans ((if_neg c35).trans (if_neg (zB_f c58))))]
            exact ⟨rfl, rfl, rfl, by omega, by omega, hw, zLe.rf, hW⟩
          · show zS _ _ _ _ _ _ _ 61 _ _ _ _ _
            refine z_aload0 dX6_acceptClause_61 ?_
            refine zc_getF (j := 2) hW fl_RX6_17 rfl (by decide) (hF _ (List.mem_of_getElem? (i := 7) rfl)) dX6_acceptClause_62 ?_
            refine z_aload0 dX6_acceptClause_65 ?_
            refine zc_getI (j := 2) hW fl_RX6_37 rfl dX6_acceptClause_66 ?_
            refine zc_alds (j := 4) (t' := 1) hw hW rfl (by decide) (by decide) hdp (by omega) (fun _ => rfl) (by decide) hopn dX6_acceptClause_69 (fun i2 => ?_)
            refine z_iload2 dX6_acceptClause_70 ?_
            refine z_callV zmd_X1_clause rfl (by decide) zl_RX6_131 zin_X1_clause zsel_X1_clause (B_X1_clause (d := d - 1) hW hF hw _ _ i2 he) i2 rfl rfl (by omega) rfl dX6_acceptClause_71 (fun r3 g3 f3 mc3 ms3 q3 => ?_)
            obtain ⟨rfl, rfl, rfl, rfl, rfl⟩ := q3
            refine z_ifnull (tgt := 79) dX6_acceptClause_74 (by decide) (fun c74 => ?_) (fun a74 c74 => ?_)
            · show zS _ _ _ _ _ _ _ 79 _ _ _ _ _
              refine z_aload0 dX6_acceptClause_79 ?_
              refine zc_getF (j := 2) hW fl_RX6_24 rfl (by decide) (hF _ (List.mem_of_getElem? (i := 9) rfl)) dX6_acceptClause_80 ?_
              refine z_aload0 dX6_acceptClause_83 ?_
              refine zc_getI (j := 2) hW fl_RX6_37 rfl dX6_acceptClause_84 ?_
              refine z_iload2 dX6_acceptClause_87 ?_
              refine zc_st (j := 6) hW rfl (by decide) hdp (by omega) dX6_acceptClause_88 ?_
              refine z_aload0 dX6_acceptClause_89 ?_
              refine zc_getF (j := 2) hW fl_RX6_30 rfl (by decide) (hF _ (List.mem_of_getElem? (i := 11) rfl)) dX6_acceptClause_90 ?_
              refine z_aload0 dX6_acceptClause_93 ?_
              refine zc_getI (j := 2) hW fl_RX6_37 rfl dX6_acceptClause_94 ?_
              refine z_iload2 dX6_acceptClause_97 ?_
              show zS _ _ _ _ _ _ _ 98 _ _ _ _ _
              refine z_bipush (v := 6) dX6_acceptClause_98 (by decide) ?_
              refine z_icmp_ne (tgt := 117) dX6_acceptClause_100 (by decide) (fun c100 => ?_) (fun c100 => ?_)
              · show zS _ _ _ _ _ _ _ 117 _ _ _ _ _
                refine z_aload0 dX6_acceptClause_117 ?_
                refine zc_getF (j := 2) hW fl_RX6_17 rfl (by decide) (hF _ (List.mem_of_getElem? (i := 7) rfl)) dX6_acceptClause_118 ?_
                refine z_aload0 dX6_acceptClause_121 ?_
                refine zc_getI (j := 2) hW fl_RX6_37 rfl dX6_acceptClause_122 ?_
                refine zc_alds (j := 4) (t' := 1) hw hW rfl (by decide) (by decide) hdp (by omega) (fun _ => rfl) (by decide) hopn dX6_acceptClause_125 (fun i4 => ?_)
                refine zc_asts (j := 8) (t' := 1) hw hW rfl (by decide) (by decide) hdp (by omega) (fun _ => rfl) i4 dX6_acceptClause_126 (fun w5 => ?_)
                refine z_aload0 dX6_acceptClause_127 ?_
                refine z_iconst (v := 1) dX6_acceptClause_128 (by decide) ?_
                refine zc_putI (j := 2) hW fl_RX6_43 rfl dX6_acceptClause_129 ?_
                refine z_iconst (v := 1) dX6_acceptClause_132 (by decide) ?_
                refine z_iret dX6_acceptClause_133 rfl ?_
                rw [show bclsA g R f C x n = _ from (if_neg c5).trans ((if_neg c13).trans ((if_neg c35).trans ((if_pos (zB_t c58)).trans (if_pos c74))))]
                exact ⟨rfl, rfl, rfl, by omega, by omega, w5, zLe.rf, hW⟩
              · exact absurd (zB_t c58).2 (by rw [c100]; decide)
            · show zS _ _ _ _ _ _ _ 77 _ _ _ _ _
              refine z_iconst (v := 0) dX6_acceptClause_77 (by decide) ?_
              refine z_iret dX6_acceptClause_78 rfl ?_
              rw [show bclsA g R f C x n = _ from (if_neg c5).trans ((if_neg c13).trans ((if_neg c35).trans ((if_pos (zB_t c58)).trans (if_neg (by rw [c74]; intro q; cases q)))))]
              exact ⟨rfl, rfl, rfl, by omega, by omega, hw, zLe.rf, hW⟩
      · show zS _ _ _ _ _ _ _ 38 _ _ _ _ _
        refine z_bipush (v := 6) dX6_acceptClause_38 (by decide) ?_
        refine z_goto (tgt := 47) dX6_acceptClause_40 (by decide) ?_
        show zS _ _ _ _ _ _ _ 47 _ _ _ _ _
        refine z_istore2 dX6_acceptClause_47 ?_
        refine z_iload1 dX6_acceptClause_48 ?_
        refine z_bipush (v := 58) dX6_acceptClause_49 (by decide) ?_
        refine z_icmp_eq (tgt := 61) dX6_acceptClause_51 (by decide) (fun c51 => ?_) (fun c51 => ?_)
        · show zS _ _ _ _ _ _ _ 61 _ _ _ _ _
          refine z_aload0 dX6_acceptClause_61 ?_
          refine zc_getF (j := 2) hW fl_RX6_17 rfl (by decide) (hF _ (List.mem_of_getElem? (i := 7) rfl)) dX6_acceptClause_62 ?_
          refine z_aload0 dX6_acceptClause_65 ?_
          refine zc_getI (j := 2) hW fl_RX6_37 rfl dX6_acceptClause_66 ?_
          refine zc_alds (j := 4) (t' := 1) hw hW rfl (by decide) (by decide) hdp (by omega) (fun _ => rfl) (by decide) hopn dX6_acceptClause_69 (fun i6 => ?_)
          refine z_iload2 dX6_acceptClause_70 ?_
          refine z_callV zmd_X1_clause rfl (by decide) zl_RX6_131 zin_X1_clause zsel_X1_clause (B_X1_clause (d := d - 1) hW hF hw _ _ i6 he) i6 rfl rfl (by omega) rfl dX6_acceptClause_71 (fun r7 g7 f7 mc7 ms7 q7 => ?_)
          obtain ⟨rfl, rfl, rfl, rfl, rfl⟩ := q7
          refine z_ifnull (tgt := 79) dX6_acceptClause_74 (by decide) (fun c74 => ?_) (fun a74 c74 => ?_)
          · show zS _ _ _ _ _ _ _ 79 _ _ _ _ _
            refine z_aload0 dX6_acceptClause_79 ?_
            refine zc_getF (j := 2) hW fl_RX6_24 rfl (by decide) (hF _ (List.mem_of_getElem? (i := 9) rfl)) dX6_acceptClause_80 ?_
            refine z_aload0 dX6_acceptClause_83 ?_
            refine zc_getI (j := 2) hW fl_RX6_37 rfl dX6_acceptClause_84 ?_
            refine z_iload2 dX6_acceptClause_87 ?_
            refine zc_st (j := 6) hW rfl (by decide) hdp (by omega) dX6_acceptClause_88 ?_
            refine z_aload0 dX6_acceptClause_89 ?_
            refine zc_getF (j := 2) hW fl_RX6_30 rfl (by decide) (hF _ (List.mem_of_getElem? (i := 11) rfl)) dX6_acceptClause_90 ?_
            refine z_aload0 dX6_acceptClause_93 ?_
            refine zc_getI (j := 2) hW fl_RX6_37 rfl dX6_acceptClause_94 ?_
            refine z_iload2 dX6_acceptClause_97 ?_
            show zS _ _ _ _ _ _ _ 98 _ _ _ _ _
            refine z_bipush (v := 6) dX6_acceptClause_98 (by decide) ?_
            refine z_icmp_ne (tgt := 117) dX6_acceptClause_100 (by decide) (fun c100 => ?_) (fun c100 => ?_)
            · exact absurd rfl c100
            · show zS _ _ _ _ _ _ _ 103 _ _ _ _ _
              refine z_aload0 dX6_acceptClause_103 ?_
              refine zc_getF (j := 2) hW fl_RX6_30 rfl (by decide) (hF _ (List.mem_of_getElem? (i := 11) rfl)) dX6_acceptClause_104 ?_
              refine z_aload0 dX6_acceptClause_107 ?_
              refine zc_getI (j := 2) hW fl_RX6_37 rfl dX6_acceptClause_108 ?_
              refine z_iconst (v := 1) dX6_acceptClause_111 (by decide) ?_
              refine z_isub dX6_acceptClause_112 ?_
              refine zc_ald (j := 8) (t' := 1) hw hW rfl (by decide) (by decide) hk1 (by omega) (fun _ => rfl) (by decide) dX6_acceptClause_113 (fun i8 => ?_)
              refine z_goto (tgt := 126) dX6_acceptClause_114 (by decide) ?_
              show zS _ _ _ _ _ _ _ 126 _ _ _ _ _
              refine zc_ast (j := 8) (t' := 1) hw hW rfl (by decide) (by decide) hdp (by omega) (fun _ => rfl) i8 dX6_acceptClause_126 (fun w9 => ?_)
              refine z_aload0 dX6_acceptClause_127 ?_
              refine z_iconst (v := 1) dX6_acceptClause_128 (by decide) ?_
              refine zc_putI (j := 2) hW fl_RX6_43 rfl dX6_acceptClause_129 ?_
              refine z_iconst (v := 1) dX6_acceptClause_132 (by decide) ?_
              refine z_iret dX6_acceptClause_133 rfl ?_
              rw [show bclsA g R f C x n = _ from (if_neg c5).trans ((if_neg c13).trans ((if_pos c35).trans (if_pos c74)))]
              exact ⟨rfl, rfl, rfl, by omega, by omega, w9, zLe.rf, hW⟩
          · show zS _ _ _ _ _ _ _ 77 _ _ _ _ _
            refine z_iconst (v := 0) dX6_acceptClause_77 (by decide) ?_
            refine z_iret dX6_acceptClause_78 rfl ?_
            rw [show bclsA g R f C x n = _ from (if_neg c5).trans ((if_neg c13).trans ((if_pos c35).trans (if_neg (by rw [c74]; intro q; cases q))))]
            exact ⟨rfl, rfl, rfl, by omega, by omega, hw, zLe.rf, hW⟩
        · exact absurd c35 c51
    · show zS _ _ _ _ _ _ _ 16 _ _ _ _ _
      rw [show bclsA g R f C x n = _ from (if_neg c5).trans (if_pos c13)]
      refine z_aload0 dX6_acceptClause_16 ?_
      refine z_dup dX6_acceptClause_17 ?_
      refine zc_getI (j := 2) hW fl_RX6_37 rfl dX6_acceptClause_18 ?_
      refine z_iconst (v := 1) dX6_acceptClause_21 (by decide) ?_
      refine z_isub dX6_acceptClause_22 ?_
      refine zc_putI (j := 2) hW fl_RX6_37 rfl dX6_acceptClause_23 ?_
      refine z_aload0 dX6_acceptClause_26 ?_
      refine z_callV zmd_X6_endPart rfl (by decide) zl_RX6_93 zin_X6_endPart zsel_X6_endPart (B_X6_endPart (d := d - 1) hW hF hw (n - 1) hk1 (by omega) (fun k h1 h2 => hop k h1 (by omega)) (by omega)) (hW.i 2 rfl) rfl rfl (by omega) rfl dX6_acceptClause_27 (fun r10 g10 f10 mc10 ms10 q10 => ?_)
      obtain ⟨rfl, rfl, rfl, hc10, hs10, w10, k10, b10⟩ := q10
      refine z_iconst (v := 1) dX6_acceptClause_30 (by decide) ?_
      refine z_iret dX6_acceptClause_31 rfl ?_
      exact ⟨rfl, rfl, rfl, by omega, by omega, w10, k10, b10⟩
  · show zS _ _ _ _ _ _ _ 8 _ _ _ _ _
    rw [show bclsA g R f C x n = _ from if_pos (Classical.not_not.mp (fun q => q c5))]
    refine z_iconst (v := 0) dX6_acceptClause_8 (by decide) ?_
    refine z_iret dX6_acceptClause_9 rfl ?_
    exact ⟨rfl, rfl, rfl, by omega, by omega, hw, zLe.rf, hW⟩
theorem CF.accC {c : Nat} {g : zG} {R : zRf} {f C : zI} {x : Int32} {n : Nat} (h : CF c R) : CF c (bclsA g R f C x n).1.2.1 := by
  unfold bclsA
  repeat' split
  all_goals first
    | exact h.r8
    | exact h
theorem CF.accV {c : Nat} {g : zG} {R : zRf} {f C : zI} {x : Int32} {n : Nat} (h : CF c R) : CF c (bvarA g R f C x n).1.2.1 := by
  unfold bvarA
  repeat' split
  all_goals exact h
theorem CF.accM {c : Nat} {g : zG} {R : zRf} {f C : zI} {x lo sz : Int32} {n : Nat} (h : CF c R) : CF c (bmarkA g R f C x lo sz n).1.2.1 := by
  unfold bmarkA
  split <;> exact h
/-- a byte is accepted, or not -/
def bacc (g : zG) (R : zRf) (f C : zI) (x : Int32) (n m : Nat) : bSt × Int32 :=
  if C 2 2 = 0 then baccE g R f (zup C 2 3 0) x n m else if C 2 2 = 1 then bvarA g R f (zup C 2 3 0) x n else
  if C 2 2 = 2 then bmarkA g R f (zup C 2 3 0) x 65 6 n else if C 2 2 = 3 then bmarkA g R f (zup C 2 3 0) x 48 4 n else
  if C 2 2 = 4 then bclsA g R f (zup C 2 3 0) x n else ((g, R, f, zup C 2 3 0), 0)
theorem CF.acc {c : Nat} {g : zG} {R : zRf} {f C : zI} {x : Int32} {n m : Nat} (h : CF c R) : CF c (bacc g R f C x n m).1.2.1 := by
  unfold bacc
  repeat' split
  all_goals first
    | exact h.accE
    | exact h.accV
    | exact h.accM
    | exact h.accC
    | exact h
theorem bacc_0 {g : zG} {R : zRf} {f C : zI} {x : Int32} {n m : Nat} (h : C 2 2 = 0) : bacc g R f C x n m = baccE g R f (zup C 2 3 0) x n m := if_pos h
theorem bacc_1 {g : zG} {R : zRf} {f C : zI} {x : Int32} {n m : Nat} (h : C 2 2 = 1) : bacc g R f C x n m = bvarA g R f (zup C 2 3 0) x n := (if_neg (by rw [h]; decide)).trans (if_pos h)
theorem bacc_2 {g : zG} {R : zRf} {f C : zI} {x : Int32} {n m : Nat} (h : C 2 2 = 2) : bacc g R f C x n m = bmarkA g R f (zup C 2 3 0) x 65 6 n := (if_neg (by rw [h]; decide)).trans ((if_neg (by rw [h]; decide)).trans (if_pos h))
theorem bacc_3 {g : zG} {R : zRf} {f C : zI} {x : Int32} {n m : Nat} (h : C 2 2 = 3) : bacc g R f C x n m = bmarkA g R f (zup C 2 3 0) x 48 4 n := (if_neg (by rw [h]; decide)).trans ((if_neg (by rw [h]; decide)).trans ((if_neg (by rw [h]; decide)).trans (if_pos h)))
theorem bacc_4 {g : zG} {R : zRf} {f C : zI} {x : Int32} {n m : Nat} (h : C 2 2 = 4) : bacc g R f C x n m = bclsA g R f (zup C 2 3 0) x n := (if_neg (by rw [h]; decide)).trans ((if_neg (by rw [h]; decide)).trans ((if_neg (by rw [h]; decide)).trans ((if_neg (by rw [h]; decide)).trans (if_pos h))))
theorem bacc_5 {g : zG} {R : zRf} {f C : zI} {x : Int32} {n m : Nat} (h0 : ¬ C 2 2 = 0) (h1 : ¬ C 2 2 = 1) (h2 : ¬ C 2 2 = 2) (h3 : ¬ C 2 2 = 3) (h4 : ¬ C 2 2 = 4) : bacc g R f C x n m = ((g, R, f, zup C 2 3 0), 0) := (if_neg h0).trans ((if_neg h1).trans ((if_neg h2).trans ((if_neg h3).trans ((if_neg h4).trans (rfl)))))
theorem baccE_01 {g : zG} {R : zRf} {f C : zI} {x : Int32} {n m : Nat} : (baccE g R f C x n m).2 = 0 ∨ (baccE g R f C x n m).2 = 1 := by
  unfold baccE
  repeat' split
  all_goals first
    | exact Or.inl rfl
    | exact Or.inr rfl
theorem bvarA_01 {g : zG} {R : zRf} {f C : zI} {x : Int32} {n : Nat} : (bvarA g R f C x n).2 = 0 ∨ (bvarA g R f C x n).2 = 1 := by
  unfold bvarA
  repeat' split
  all_goals first
    | exact Or.inl rfl
    | exact Or.inr rfl
theorem bmarkA_01 {g : zG} {R : zRf} {f C : zI} {x lo sz : Int32} {n : Nat} : (bmarkA g R f C x lo sz n).2 = 0 ∨ (bmarkA g R f C x lo sz n).2 = 1 := by
  unfold bmarkA
  repeat' split
  all_goals first
    | exact Or.inl rfl
    | exact Or.inr rfl
theorem bclsA_01 {g : zG} {R : zRf} {f C : zI} {x : Int32} {n : Nat} : (bclsA g R f C x n).2 = 0 ∨ (bclsA g R f C x n).2 = 1 := by
  unfold bclsA
  repeat' split
  all_goals first
    | exact Or.inl rfl
    | exact Or.inr rfl
set_option maxRecDepth 20000 in
set_option maxHeartbeats 400000 in
theorem B_X6_accept {l : Launch} {d : Nat} {D : zD} {b0 : Nat} {g : zG} {f C : zI} {R : zRf} {c : Nat} (hW : CW b0 g c) (hF : CF c R) (hw : zOK b0 zNo (gv c g R)) (x : Int32) (n m : Nat) (hV : RV b0 c 119 g R C n m) (hd : 5 ≤ d) : zM l d D b0 mX6_accept [.ref (c + 2), .int x] (gv c g R) (cv c f C) (zCy b0 zNo c g (some (.int (bacc g R f C x n m).2)) (bacc g R f C x n m).1.1 (bacc g R f C x n m).1.2.1 (bacc g R f C x n m).1.2.2.1 (bacc g R f C x n m).1.2.2.2 3 24) := by
  refine zM.start zmd_X6_accept (Nat.le_of_ble_eq_true rfl) ⟨rfl, rfl, trivial⟩ [some (.ref (c + 2)), some (.int x)] rfl ?_
  refine z_aload0 dX6_accept_0 ?_
  refine z_iconst (v := 0) dX6_accept_1 (by decide) ?_
  refine zc_putI (j := 2) hW fl_RX6_40 rfl dX6_accept_2 ?_
  refine z_aload0 dX6_accept_5 ?_
  refine zc_getI (j := 2) hW fl_RX6_43 rfl dX6_accept_6 ?_
  refine z_tab dX6_accept_9 (by decide +kernel) (by decide +kernel) ?_
  refine ⟨fun c9_0 => ?_, fun nc9_0 => ?_⟩
  · show zS _ _ _ _ _ _ _ 44 _ _ _ _ _
    rw [bacc_0 (C := C) c9_0]
    refine z_aload0 dX6_accept_44 ?_
    refine z_iload1 dX6_accept_45 ?_
    refine z_callV zmd_X6_acceptExpression rfl (by decide) zl_RX6_66 zin_X6_acceptExpression zsel_X6_acceptExpression (B_X6_acceptExpression (d := d - 1) hW hF hw _  n m hV.dig (by omega)) (hW.i 2 rfl) rfl rfl (by omega) rfl dX6_accept_46 (fun r1 g1 f1 mc1 ms1 q1 => ?_)
    obtain ⟨rfl, rfl, rfl, hc1, hs1, w1, k1, b1⟩ := q1
    refine z_iret dX6_accept_49 rfl ?_ (by rcases baccE_01 with q | q <;> rw [q] <;> rfl)
    exact ⟨rfl, rfl, rfl, by omega, by omega, w1, k1, b1⟩
  refine ⟨fun c9_1 => ?_, fun nc9_1 => ?_⟩
  · show zS _ _ _ _ _ _ _ 50 _ _ _ _ _
    rw [bacc_1 (C := C) c9_1]
    refine z_aload0 dX6_accept_50 ?_
    refine z_iload1 dX6_accept_51 ?_
    refine z_callV zmd_X6_acceptVariable rfl (by decide) zl_RX6_69 zin_X6_acceptVariable zsel_X6_acceptVariable (B_X6_acceptVariable (d := d - 1) hW hF hw _  n m hV.dig (by omega)) (hW.i 2 rfl) rfl rfl (by omega) rfl dX6_accept_52 (fun r2 g2 f2 mc2 ms2 q2 => ?_)
    obtain ⟨rfl, rfl, rfl, hc2, hs2, w2, k2, b2⟩ := q2
    refine z_iret dX6_accept_55 rfl ?_ (by rcases bvarA_01 with q | q <;> rw [q] <;> rfl)
    exact ⟨rfl, rfl, rfl, by omega, by omega, w2, k2, b2⟩
  refine ⟨fun c9_2 => ?_, fun nc9_2 => ?_⟩
  · show zS _ _ _ _ _ _ _ 56 _ _ _ _ _
    rw [bacc_2 (C := C) c9_2]
    refine z_aload0 dX6_accept_56 ?_
    refine z_iload1 dX6_accept_57 ?_
    refine z_bipush (v := 65) dX6_accept_58 (by decide) ?_
    refine z_bipush (v := 6) dX6_accept_60 (by decide) ?_
    refine z_callV zmd_X6_acceptMark rfl (by decide) zl_RX6_72 zin_X6_acceptMark zsel_X6_acceptMark (B_X6_acceptMark (d := d - 1) hW hF hw _ _ _ n m hV.dig) (hW.i 2 rfl) rfl rfl (by omega) rfl dX6_accept_62 (fun r3 g3 f3 mc3 ms3 q3 => ?_)
    obtain ⟨rfl, rfl, rfl, hc3, hs3, w3, k3, b3⟩ := q3
    refine z_iret dX6_accept_65 rfl ?_ (by rcases bmarkA_01 with q | q <;> rw [q] <;> rfl)
    exact ⟨rfl, rfl, rfl, by omega, by omega, w3, k3, b3⟩
  refine ⟨fun c9_3 => ?_, fun nc9_3 => ?_⟩
  · show zS _ _ _ _ _ _ _ 66 _ _ _ _ _
    rw [bacc_3 (C := C) c9_3]
    refine z_aload0 dX6_accept_66 ?_
    refine z_iload1 dX6_accept_67 ?_
    refine z_bipush (v := 48) dX6_accept_68 (by decide) ?_
    refine z_iconst (v := 4) dX6_accept_70 (by decide) ?_
    refine z_callV zmd_X6_acceptMark rfl (by decide) zl_RX6_72 zin_X6_acceptMark zsel_X6_acceptMark (B_X6_acceptMark (d := d - 1) hW hF hw _ _ _ n m hV.dig) (hW.i 2 rfl) rfl rfl (by omega) rfl dX6_accept_71 (fun r4 g4 f4 mc4 ms4 q4 => ?_)
    obtain ⟨rfl, rfl, rfl, hc4, hs4, w4, k4, b4⟩ := q4
    refine z_iret dX6_accept_74 rfl ?_ (by rcases bmarkA_01 with q | q <;> rw [q] <;> rfl)
    exact ⟨rfl, rfl, rfl, by omega, by omega, w4, k4, b4⟩
  refine ⟨fun c9_4 => ?_, fun nc9_4 => ?_⟩
  · show zS _ _ _ _ _ _ _ 75 _ _ _ _ _
    rw [bacc_4 (C := C) c9_4]
    refine z_aload0 dX6_accept_75 ?_
    refine z_iload1 dX6_accept_76 ?_
    refine z_callV zmd_X6_acceptClause rfl (by decide) zl_RX6_76 zin_X6_acceptClause zsel_X6_acceptClause (B_X6_acceptClause (d := d - 1) hW hF hw _  n m hV.dig (by omega)) (hW.i 2 rfl) rfl rfl (by omega) rfl dX6_accept_77 (fun r5 g5 f5 mc5 ms5 q5 => ?_)
    obtain ⟨rfl, rfl, rfl, hc5, hs5, w5, k5, b5⟩ := q5
    refine z_iret dX6_accept_80 rfl ?_ (by rcases bclsA_01 with q | q <;> rw [q] <;> rfl)
    exact ⟨rfl, rfl, rfl, by omega, by omega, w5, k5, b5⟩
  show zS _ _ _ _ _ _ _ 81 _ _ _ _ _
  rw [bacc_5 (C := C) nc9_0 nc9_1 nc9_2 nc9_3 nc9_4]
  refine z_iconst (v := 0) dX6_accept_81 (by decide) ?_
  refine z_iret dX6_accept_82 rfl ?_
  exact ⟨rfl, rfl, rfl, by omega, by omega, hw, zLe.rf, hW⟩
def bdig (g : zG) (R : zRf) (f C : zI) (x : Int32) (m : Nat) : bSt :=
  if 0 < C 2 1 then (g, R, zup f ((R 3 (m - 1)).getD 0) 1 (f ((R 3 (m - 1)).getD 0) 1 * 10 + (x - 48)), zup C 2 3 (C 2 3 + 1)) else (g, R, f, zup C 2 3 (C 2 3 + 1))
theorem CF.digi {c : Nat} {g : zG} {R : zRf} {f C : zI} {x : Int32} {m : Nat} (h : CF c R) : CF c (bdig g R f C x m).2.1 := by
  unfold bdig
  split <;> exact h
set_option maxRecDepth 20000 in
set_option maxHeartbeats 400000 in
theorem B_X6_addDigit {l : Launch} {d : Nat} {D : zD} {b0 : Nat} {g : zG} {f C : zI} {R : zRf} {c : Nat} (hW : CW b0 g c) (hF : CF c R) (hw : zOK b0 zNo (gv c g R)) (x : Int32) (n m : Nat) (hV : RV b0 c 119 g R C n m) : zM l d D b0 mX6_addDigit [.ref (c + 2), .int x] (gv c g R) (cv c f C) (zCy b0 zNo c g none (bdig g R f C x m).1 (bdig g R f C x m).2.1 (bdig g R f C x m).2.2.1 (bdig g R f C x m).2.2.2 0 0) := by
  obtain ⟨hdp, hct, hn, hm, h6, hop, hal, hE⟩ := hV
  refine zM.start zmd_X6_addDigit (Nat.le_of_ble_eq_true rfl) ⟨rfl, rfl, trivial⟩ [some (.ref (c + 2)), some (.int x)] rfl ?_
  refine z_aload0 dX6_addDigit_0 ?_
  refine zc_getI (j := 2) hW fl_RX6_33 rfl dX6_addDigit_1 ?_
  refine z_if_le (tgt := 43) dX6_addDigit_4 (by decide) (fun c4 => ?_) (fun c4 => ?_)
  · show zS _ _ _ _ _ _ _ 43 _ _ _ _ _
    refine z_aload0 dX6_addDigit_43 ?_
    refine z_dup dX6_addDigit_44 ?_
    refine zc_getI (j := 2) hW fl_RX6_40 rfl dX6_addDigit_45 ?_
    refine z_iconst (v := 1) dX6_addDigit_48 (by decide) ?_
    refine z_iadd dX6_addDigit_49 ?_
    refine zc_putI (j := 2) hW fl_RX6_40 rfl dX6_addDigit_50 ?_
    refine z_ret dX6_addDigit_53 rfl ?_
    rw [show bdig g R f C x m = _ from if_neg c4]
    exact ⟨rfl, rfl, rfl, by omega, by omega, hw, zLe.rf, hW⟩
  · show zS _ _ _ _ _ _ _ 7 _ _ _ _ _
    have hm1 : 1 ≤ m := by rw [hct] at c4; exact (nI_ltI (a := 0) (b := m) (by decide) (by omega)).mp c4
    have hk1 : C 2 1 - 1 = nI (m - 1) := by rw [hct]; exact ixS (a := m) (b := 1) rfl rfl hm1
    refine z_aload0 dX6_addDigit_7 ?_
    refine zc_getF (j := 2) hW fl_RX6_11 rfl (by decide) (hF _ (List.mem_of_getElem? (i := 6) rfl)) dX6_addDigit_8 ?_
    refine z_aload0 dX6_addDigit_11 ?_
    refine zc_getI (j := 2) hW fl_RX6_33 rfl dX6_addDigit_12 ?_
    refine z_iconst (v := 1) dX6_addDigit_15 (by decide) ?_
    refine z_isub dX6_addDigit_16 ?_
    refine zc_alds (j := 3) (t' := 1) hw hW rfl (by decide) (by decide) hk1 (by omega) (fun _ => rfl) (by decide) (hal (m - 1) (by omega)) dX6_addDigit_17 (fun i1 => ?_)
    refine z_aload0 dX6_addDigit_18 ?_
    refine zc_getF (j := 2) hW fl_RX6_11 rfl (by decide) (hF _ (List.mem_of_getElem? (i := 6) rfl)) dX6_addDigit_19 ?_
    refine z_aload0 dX6_addDigit_22 ?_
    refine zc_getI (j := 2) hW fl_RX6_33 rfl dX6_addDigit_23 ?_
    show zS _ _ _ _ _ _ _ 26 _ _ _ _ _
    refine z_iconst (v := 1) dX6_addDigit_26 (by decide) ?_
    refine z_isub dX6_addDigit_27 ?_
    refine zc_alds (j := 3) (t' := 1) hw hW rfl (by decide) (by decide) hk1 (by omega) (fun _ => rfl) (by decide) (hal (m - 1) (by omega)) dX6_addDigit_28 (fun i2 => ?_)
    refine zd_getI hW fl_RX6_63 i2 (by decide) dX6_addDigit_29 ?_
    refine z_bipush (v := 10) dX6_addDigit_32 (by decide) ?_
    refine z_imul dX6_addDigit_34 ?_
    refine z_iload1 dX6_addDigit_35 ?_
    refine z_bipush (v := 48) dX6_addDigit_36 (by decide) ?_
    refine z_isub dX6_addDigit_38 ?_
    refine z_iadd dX6_addDigit_39 ?_
    refine zd_putI hW fl_RX6_63 i1 (by decide) dX6_addDigit_40 ?_
    refine z_aload0 dX6_addDigit_43 ?_
    show zS _ _ _ _ _ _ _ 44 _ _ _ _ _
    refine z_dup dX6_addDigit_44 ?_
    refine zc_getI (j := 2) hW fl_RX6_40 rfl dX6_addDigit_45 ?_
    refine z_iconst (v := 1) dX6_addDigit_48 (by decide) ?_
    refine z_iadd dX6_addDigit_49 ?_
    refine zc_putI (j := 2) hW fl_RX6_40 rfl dX6_addDigit_50 ?_
    refine z_ret dX6_addDigit_53 rfl ?_
    rw [show bdig g R f C x m = _ from if_pos c4]
    exact ⟨rfl, rfl, rfl, by omega, by omega, hw, zLe.rf, hW⟩
