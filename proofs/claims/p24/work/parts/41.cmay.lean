/-! The class's sets of what may be left, over the block. -/
def glv (f : zI) (r : Option Nat) : Int32 := match r with
  | none => 0
  | some a => f a 8
def glt (f : zI) (r : Option Nat) : Int32 := match r with
  | none => 0
  | some a => f a 9
def gpair (x y : Int32) : Int32 := 1 <<< ((x * 4 + y) &&& 31)
def gall (x : Int32) : Int32 := 15 <<< ((x * 4) &&& 31)
def grai (s x : Int32) : Int32 := (s &&& ((s &&& gall x) ^^^ (-1 : Int32))) ||| ((((s &&& gall x) <<< (1 &&& 31)) ||| ((s &&& gall x) &&& gpair x 3)) &&& gall x)
def glow (s x : Int32) : Int32 := ((s &&& ((s &&& gall x) ^^^ (-1 : Int32))) ||| (((s &&& gall x) >>> (1 &&& 31)) &&& gall x)) ||| ((s &&& gall x) &&& gpair x 3)
set_option maxRecDepth 20000 in
theorem K_X1_pair {l : Launch} {d : Nat} {D : zD} {b0 : Nat} {g : zG} {f : zI}  (x y : Int32) : zM l d D b0 mX1_pair [.int x, .int y] g f (zEx (some (.int (gpair x y))) g f) := by
  refine zM.start zmd_X1_pair (Nat.le_of_ble_eq_true rfl) ⟨rfl, rfl, trivial⟩ [some (.int x), some (.int y)] rfl ?_
  refine z_iconst (v := 1) dX1_pair_0 (by decide) ?_
  refine z_iload0 dX1_pair_1 ?_
  refine z_iconst (v := 4) dX1_pair_2 (by decide) ?_
  refine z_imul dX1_pair_3 ?_
  refine z_iload1 dX1_pair_4 ?_
  refine z_iadd dX1_pair_5 ?_
  refine z_ishl dX1_pair_6 ?_
  refine z_iret dX1_pair_7 rfl ?_
  exact ⟨rfl, rfl, rfl, rfl, rfl⟩
set_option maxRecDepth 20000 in
theorem K_X1_allLevels {l : Launch} {d : Nat} {D : zD} {b0 : Nat} {g : zG} {f : zI}  (x : Int32) : zM l d D b0 mX1_allLevels [.int x] g f (zEx (some (.int (gall x))) g f) := by
  refine zM.start zmd_X1_allLevels (Nat.le_of_ble_eq_true rfl) ⟨rfl, trivial⟩ [some (.int x)] rfl ?_
  refine z_bipush (v := 15) dX1_allLevels_0 (by decide) ?_
  refine z_iload0 dX1_allLevels_2 ?_
  refine z_iconst (v := 4) dX1_allLevels_3 (by decide) ?_
  refine z_imul dX1_allLevels_4 ?_
  refine z_ishl dX1_allLevels_5 ?_
  refine z_iret dX1_allLevels_6 rfl ?_
  exact ⟨rfl, rfl, rfl, rfl, rfl⟩
set_option maxRecDepth 20000 in
theorem K_X1_raised {l : Launch} {d : Nat} {D : zD} {b0 : Nat} {g : zG} {f : zI}  (s x : Int32) (hd : 1 ≤ d) : zM l d D b0 mX1_raised [.int s, .int x] g f (zEx (some (.int (grai s x))) g f) := by
  refine zM.start zmd_X1_raised (Nat.le_of_ble_eq_true rfl) ⟨rfl, rfl, trivial⟩ [some (.int s), some (.int x), none, none] rfl ?_
  refine z_iload0 dX1_raised_0 ?_
  refine z_iload1 dX1_raised_1 ?_
  refine z_callSi zmd_X1_allLevels zl_RX1_33 zst_X1_allLevels (K_X1_allLevels (d := d - 1) _) rfl rfl (by omega) rfl dX1_raised_2 ?_
  refine z_iand dX1_raised_5 ?_
  refine z_istore2 dX1_raised_6 ?_
  refine z_iload2 dX1_raised_7 ?_
  refine z_iload1 dX1_raised_8 ?_
  refine z_iconst (v := 3) dX1_raised_9 (by decide) ?_
  refine z_callSi zmd_X1_pair zl_RX1_37 zst_X1_pair (K_X1_pair (d := d - 1) _ _) rfl rfl (by omega) rfl dX1_raised_10 ?_
  refine z_iand dX1_raised_13 ?_
  refine z_istore3 dX1_raised_14 ?_
  show zS _ _ _ _ _ _ _ 15 _ _ _ _ _
  refine z_iload0 dX1_raised_15 ?_
  refine z_iload2 dX1_raised_16 ?_
  refine z_iconst (v := (-1)) dX1_raised_17 (by decide) ?_
  refine z_ixor dX1_raised_18 ?_
  refine z_iand dX1_raised_19 ?_
  refine z_iload2 dX1_raised_20 ?_
  refine z_iconst (v := 1) dX1_raised_21 (by decide) ?_
  refine z_ishl dX1_raised_22 ?_
  refine z_iload3 dX1_raised_23 ?_
  refine z_ior dX1_raised_24 ?_
  refine z_iload1 dX1_raised_25 ?_
  refine z_callSi zmd_X1_allLevels zl_RX1_33 zst_X1_allLevels (K_X1_allLevels (d := d - 1) _) rfl rfl (by omega) rfl dX1_raised_26 ?_
  show zS _ _ _ _ _ _ _ 29 _ _ _ _ _
  refine z_iand dX1_raised_29 ?_
  refine z_ior dX1_raised_30 ?_
  refine z_iret dX1_raised_31 rfl ?_
  exact ⟨rfl, rfl, rfl, rfl, rfl⟩
set_option maxRecDepth 20000 in
theorem K_X1_lowered {l : Launch} {d : Nat} {D : zD} {b0 : Nat} {g : zG} {f : zI}  (s x : Int32) (hd : 1 ≤ d) : zM l d D b0 mX1_lowered [.int s, .int x] g f (zEx (some (.int (glow s x))) g f) := by
  refine zM.start zmd_X1_lowered (Nat.le_of_ble_eq_true rfl) ⟨rfl, rfl, trivial⟩ [some (.int s), some (.int x), none, none] rfl ?_
  refine z_iload0 dX1_lowered_0 ?_
  refine z_iload1 dX1_lowered_1 ?_
  refine z_callSi zmd_X1_allLevels zl_RX1_33 zst_X1_allLevels (K_X1_allLevels (d := d - 1) _) rfl rfl (by omega) rfl dX1_lowered_2 ?_
  refine z_iand dX1_lowered_5 ?_
  refine z_istore2 dX1_lowered_6 ?_
  refine z_iload2 dX1_lowered_7 ?_
  refine z_iload1 dX1_lowered_8 ?_
  refine z_iconst (v := 3) dX1_lowered_9 (by decide) ?_
  refine z_callSi zmd_X1_pair zl_RX1_37 zst_X1_pair (K_X1_pair (d := d - 1) _ _) rfl rfl (by omega) rfl dX1_lowered_10 ?_
  refine z_iand dX1_lowered_13 ?_
  refine z_istore3 dX1_lowered_14 ?_
  show zS _ _ _ _ _ _ _ 15 _ _ _ _ _
  refine z_iload0 dX1_lowered_15 ?_
  refine z_iload2 dX1_lowered_16 ?_
  refine z_iconst (v := (-1)) dX1_lowered_17 (by decide) ?_
  refine z_ixor dX1_lowered_18 ?_
  refine z_iand dX1_lowered_19 ?_
  refine z_iload2 dX1_lowered_20 ?_
  refine z_iconst (v := 1) dX1_lowered_21 (by decide) ?_
  refine z_ishr dX1_lowered_22 ?_
  refine z_iload1 dX1_lowered_23 ?_
  refine z_callSi zmd_X1_allLevels zl_RX1_33 zst_X1_allLevels (K_X1_allLevels (d := d - 1) _) rfl rfl (by omega) rfl dX1_lowered_24 ?_
  refine z_iand dX1_lowered_27 ?_
  refine z_ior dX1_lowered_28 ?_
  show zS _ _ _ _ _ _ _ 29 _ _ _ _ _
  refine z_iload3 dX1_lowered_29 ?_
  refine z_ior dX1_lowered_30 ?_
  refine z_iret dX1_lowered_31 rfl ?_
  exact ⟨rfl, rfl, rfl, rfl, rfl⟩
set_option maxRecDepth 20000 in
set_option maxHeartbeats 400000 in
theorem B_X1_leavesOf {l : Launch} {d : Nat} {D : zD} {b0 : Nat} {g : zG} {f C : zI} {R : zRf} {c : Nat} (hW : CW b0 g c) (hF : CF c R) (hw : zOK b0 zNo (gv c g R)) (r : Option Nat) (hr : ∀ b, r = some b → zIn b0 g b 1) : zM l d D b0 mX1_leavesOf [va_rf r] (gv c g R) (cv c f C) (zEx (some (.int (glv f r))) (gv c g R) (cv c f C)) := by
  refine zM.start zmd_X1_leavesOf (Nat.le_of_ble_eq_true rfl) ⟨zcat_o _, trivial⟩ [some (va_rf r)] rfl ?_
  refine z_aload0 dX1_leavesOf_0 ?_
  refine z_ifnonnull (tgt := 8) dX1_leavesOf_1 (by decide) (fun a1 c1 => ?_) (fun c1 => ?_)
  · show zS _ _ _ _ _ _ _ 8 _ _ _ _ _
    obtain ⟨a, rfl⟩ : ∃ a, r = some a := ⟨_, c1⟩
    have hb := hr _ rfl
    refine z_aload0 dX1_leavesOf_8 ?_
    refine zd_getI hW fl_RX1_27 hb (by decide) dX1_leavesOf_9 ?_
    refine z_iret dX1_leavesOf_12 rfl ?_
    exact ⟨rfl, rfl, rfl, rfl, rfl⟩
  · show zS _ _ _ _ _ _ _ 4 _ _ _ _ _
    subst c1
    refine z_iconst (v := 0) dX1_leavesOf_4 (by decide) ?_
    refine z_goto (tgt := 12) dX1_leavesOf_5 (by decide) ?_
    show zS _ _ _ _ _ _ _ 12 _ _ _ _ _
    refine z_iret dX1_leavesOf_12 rfl ?_
    exact ⟨rfl, rfl, rfl, rfl, rfl⟩
set_option maxRecDepth 20000 in
set_option maxHeartbeats 400000 in
theorem B_X1_lateOf {l : Launch} {d : Nat} {D : zD} {b0 : Nat} {g : zG} {f C : zI} {R : zRf} {c : Nat} (hW : CW b0 g c) (hF : CF c R) (hw : zOK b0 zNo (gv c g R)) (r : Option Nat) (hr : ∀ b, r = some b → zIn b0 g b 1) : zM l d D b0 mX1_lateOf [va_rf r] (gv c g R) (cv c f C) (zEx (some (.int (glt f r))) (gv c g R) (cv c f C)) := by
  refine zM.start zmd_X1_lateOf (Nat.le_of_ble_eq_true rfl) ⟨zcat_o _, trivial⟩ [some (va_rf r)] rfl ?_
  refine z_aload0 dX1_lateOf_0 ?_
  refine z_ifnonnull (tgt := 8) dX1_lateOf_1 (by decide) (fun a1 c1 => ?_) (fun c1 => ?_)
  · show zS _ _ _ _ _ _ _ 8 _ _ _ _ _
    obtain ⟨a, rfl⟩ : ∃ a, r = some a := ⟨_, c1⟩
    have hb := hr _ rfl
    refine z_aload0 dX1_lateOf_8 ?_
    refine zd_getI hW fl_RX1_30 hb (by decide) dX1_lateOf_9 ?_
    refine z_iret dX1_lateOf_12 rfl ?_
    exact ⟨rfl, rfl, rfl, rfl, rfl⟩
  · show zS _ _ _ _ _ _ _ 4 _ _ _ _ _
    subst c1
    refine z_iconst (v := 0) dX1_lateOf_4 (by decide) ?_
    refine z_goto (tgt := 12) dX1_lateOf_5 (by decide) ?_
    show zS _ _ _ _ _ _ _ 12 _ _ _ _ _
    refine z_iret dX1_lateOf_12 rfl ?_
    exact ⟨rfl, rfl, rfl, rfl, rfl⟩
def ghL (g : zG) (e : Nat) : Nat → Nat → Int32 → Int32
  | 0, _, x => x
  | j + 1, k, x => ghL g e j (k + 1) (if bclause g e (nI k) = none then x else glow x (nI k))
def ghS (g : zG) (f : zI) (e : Nat) : Nat → Nat → Int32 → Int32
  | 0, _, x => x
  | j + 1, k, x => ghS g f e j (k + 1) (x ||| glv f (bclause g e (nI k)))
def ghT (g : zG) (f : zI) (e : Nat) : Nat → Nat → Int32 → Int32
  | 0, _, x => x
  | j + 1, k, x => ghT g f e j (k + 1) (x ||| glt f (bclause g e (nI k)))
def gleavesH (g : zG) (f : zI) (e : Nat) : Int32 := ghS g f e 7 0 (ghL g e 6 0 (glv f (g.2.2.2 e 2)) ||| glt f (g.2.2.2 e 2))
def glateC (g : zG) (f : zI) (e : Nat) : Int32 := ghT g f e 7 0 0
set_option maxRecDepth 20000 in
theorem Bl_X1_lh1 {l : Launch} {d : Nat} {D : zD} {b0 : Nat} {g : zG} {f C : zI} {R : zRf} {c : Nat} (hW : CW b0 g c) (hF : CF c R) (hw : zOK b0 zNo (gv c g R)) (e : Nat) (hi : zIn b0 g e 1) (he : eOK g c e) (hd : 2 ≤ d) (Q : Nat → Nat → zKT → Prop) (y3 : Option Value) : ∀ (j k : Nat) (x : Int32), k + j = 6 → (zS l d D b0 mX1_leavesOfHandler 0 0 36 [some (.ref e), some (.int (ghL g e j k x)), some (.int (nI 6)), y3] [] (gv c g R) (cv c f C) Q) → zS l d D b0 mX1_leavesOfHandler 0 0 10 [some (.ref e), some (.int x), some (.int (nI k)), y3] [] (gv c g R) (cv c f C) Q := by
  intro j
  induction j with
  | zero =>
    intro k x hk kk
    obtain rfl : k = 6 := by omega
    show zS _ _ _ _ _ _ _ 10 _ _ _ _ _
    refine z_iload2 dX1_leavesOfHandler_10 ?_
    refine z_bipush (v := 6) dX1_leavesOfHandler_11 (by decide) ?_
    refine z_icmp_ge (tgt := 36) dX1_leavesOfHandler_13 (by decide) (fun c13 => ?_) (fun c13 => ?_)
    · exact kk
    · exact absurd c13 (nI_nlt (a := 6) (b := 6) (by decide) (by decide))
  | succ j ih =>
    intro k x hk kk
    show zS _ _ _ _ _ _ _ 10 _ _ _ _ _
    refine z_iload2 dX1_leavesOfHandler_10 ?_
    refine z_bipush (v := 6) dX1_leavesOfHandler_11 (by decide) ?_
    refine z_icmp_ge (tgt := 36) dX1_leavesOfHandler_13 (by decide) (fun c13 => ?_) (fun c13 => ?_)
    · exact absurd (nI_lt (b := 6) (by omega) (by decide)) c13
    · show zS _ _ _ _ _ _ _ 16 _ _ _ _ _
      refine z_aload0 dX1_leavesOfHandler_16 ?_
      refine z_iload2 dX1_leavesOfHandler_17 ?_
      refine z_callV zmd_X1_clause rfl (by decide) zl_RX1_23 zin_X1_clause zsel_X1_clause (B_X1_clause (d := d - 1) hW hF hw _ _ hi he) hi rfl rfl (by omega) rfl dX1_leavesOfHandler_18 (fun r1 g1 f1 mc1 ms1 q1 => ?_)
      obtain ⟨rfl, rfl, rfl, rfl, rfl⟩ := q1
      refine z_ifnull (tgt := 30) dX1_leavesOfHandler_21 (by decide) (fun c21 => ?_) (fun a21 c21 => ?_)
      · show zS _ _ _ _ _ _ _ 30 _ _ _ _ _
        refine z_iinc2 (y := 1) dX1_leavesOfHandler_30 (by decide) ?_
        refine z_goto (tgt := 10) dX1_leavesOfHandler_33 (by decide) ?_
        rw [nI_1]
        rw [show ghL g e (j + 1) k x = ghL g e j (k + 1) _ from congrArg (ghL g e j (k + 1)) (if_pos c21)] at kk
        exact ih (k + 1) _ (by omega) kk
      · show zS _ _ _ _ _ _ _ 24 _ _ _ _ _
        refine z_iload1 dX1_leavesOfHandler_24 ?_
        refine z_iload2 dX1_leavesOfHandler_25 ?_
        refine z_callSi zmd_X1_lowered zl_RX1_83 zst_X1_lowered (K_X1_lowered (d := d - 1) _ _ (by omega)) rfl rfl (by omega) rfl dX1_leavesOfHandler_26 ?_
        refine z_istore1 dX1_leavesOfHandler_29 ?_
        refine z_iinc2 (y := 1) dX1_leavesOfHandler_30 (by decide) ?_
        refine z_goto (tgt := 10) dX1_leavesOfHandler_33 (by decide) ?_
        rw [nI_1]
        rw [show ghL g e (j + 1) k x = ghL g e j (k + 1) _ from congrArg (ghL g e j (k + 1)) (if_neg (by rw [c21]; intro q; cases q))] at kk
        exact ih (k + 1) _ (by omega) kk
set_option maxRecDepth 20000 in
theorem Bl_X1_lh2 {l : Launch} {d : Nat} {D : zD} {b0 : Nat} {g : zG} {f C : zI} {R : zRf} {c : Nat} (hW : CW b0 g c) (hF : CF c R) (hw : zOK b0 zNo (gv c g R)) (e : Nat) (hi : zIn b0 g e 1) (he : eOK g c e) (hd : 2 ≤ d) (Q : Nat → Nat → zKT → Prop) (y1 : Option Value) : ∀ (j k : Nat) (x : Int32), k + j = 7 → (zS l d D b0 mX1_leavesOfHandler 0 0 71 [some (.ref e), y1, some (.int (ghS g f e j k x)), some (.int (nI 7))] [] (gv c g R) (cv c f C) Q) → zS l d D b0 mX1_leavesOfHandler 0 0 48 [some (.ref e), y1, some (.int x), some (.int (nI k))] [] (gv c g R) (cv c f C) Q := by
  intro j
  induction j with
  | zero =>
    intro k x hk kk
    obtain rfl : k = 7 := by omega
    show zS _ _ _ _ _ _ _ 48 _ _ _ _ _
    refine z_iload3 dX1_leavesOfHandler_48 ?_
    refine z_bipush (v := 7) dX1_leavesOfHandler_49 (by decide) ?_
    refine z_icmp_ge (tgt := 71) dX1_leavesOfHandler_51 (by decide) (fun c51 => ?_) (fun c51 => ?_)
    · exact kk
    · exact absurd c51 (nI_nlt (a := 7) (b := 7) (by decide) (by decide))
  | succ j ih =>
    intro k x hk kk
    show zS _ _ _ _ _ _ _ 48 _ _ _ _ _
    refine z_iload3 dX1_leavesOfHandler_48 ?_
    refine z_bipush (v := 7) dX1_leavesOfHandler_49 (by decide) ?_
    refine z_icmp_ge (tgt := 71) dX1_leavesOfHandler_51 (by decide) (fun c51 => ?_) (fun c51 => ?_)
    · exact absurd (nI_lt (b := 7) (by omega) (by decide)) c51
    · show zS _ _ _ _ _ _ _ 54 _ _ _ _ _
      refine z_iload2 dX1_leavesOfHandler_54 ?_
      refine z_aload0 dX1_leavesOfHandler_55 ?_
      refine z_iload3 dX1_leavesOfHandler_56 ?_
      refine z_callV zmd_X1_clause rfl (by decide) zl_RX1_23 zin_X1_clause zsel_X1_clause (B_X1_clause (d := d - 1) hW hF hw _ _ hi he) hi rfl rfl (by omega) rfl dX1_leavesOfHandler_57 (fun r1 g1 f1 mc1 ms1 q1 => ?_)
      obtain ⟨rfl, rfl, rfl, rfl, rfl⟩ := q1
      refine z_callS zmd_X1_leavesOf zl_RX1_45 zst_X1_leavesOf (B_X1_leavesOf (d := d - 1) hW hF hw _ (bclause_in hw hW hi he)) rfl rfl (by omega) rfl dX1_leavesOfHandler_60 (fun r2 g2 f2 mc2 ms2 q2 => ?_)
      obtain ⟨rfl, rfl, rfl, rfl, rfl⟩ := q2
      refine z_ior dX1_leavesOfHandler_63 ?_
      refine z_istore2 dX1_leavesOfHandler_64 ?_
      refine z_iinc3 (y := 1) dX1_leavesOfHandler_65 (by decide) ?_
      refine z_goto (tgt := 48) dX1_leavesOfHandler_68 (by decide) ?_
      rw [nI_1]
      exact ih (k + 1) _ (by omega) kk
set_option maxRecDepth 20000 in
theorem Bl_X1_lc {l : Launch} {d : Nat} {D : zD} {b0 : Nat} {g : zG} {f C : zI} {R : zRf} {c : Nat} (hW : CW b0 g c) (hF : CF c R) (hw : zOK b0 zNo (gv c g R)) (e : Nat) (hi : zIn b0 g e 1) (he : eOK g c e) (hd : 2 ≤ d) (Q : Nat → Nat → zKT → Prop) (y3 : Nat) : ∀ (j k : Nat) (x : Int32), k + j = 7 → (zS l d D b0 mX1_lateOfClauses 0 0 27 [some (.ref e), some (.int (ghT g f e j k x)), some (.int (nI 7))] [] (gv c g R) (cv c f C) Q) → zS l d D b0 mX1_lateOfClauses 0 0 4 [some (.ref e), some (.int x), some (.int (nI k))] [] (gv c g R) (cv c f C) Q := by
  intro j
  induction j with
  | zero =>
    intro k x hk kk
    obtain rfl : k = 7 := by omega
    show zS _ _ _ _ _ _ _ 4 _ _ _ _ _
    refine z_iload2 dX1_lateOfClauses_4 ?_
    refine z_bipush (v := 7) dX1_lateOfClauses_5 (by decide) ?_
    refine z_icmp_ge (tgt := 27) dX1_lateOfClauses_7 (by decide) (fun c7 => ?_) (fun c7 => ?_)
    · exact kk
    · exact absurd c7 (nI_nlt (a := 7) (b := 7) (by decide) (by decide))
  | succ j ih =>
    intro k x hk kk
    show zS _ _ _ _ _ _ _ 4 _ _ _ _ _
    refine z_iload2 dX1_lateOfClauses_4 ?_
    refine z_bipush (v := 7) dX1_lateOfClauses_5 (by decide) ?_
    refine z_icmp_ge (tgt := 27) dX1_lateOfClauses_7 (by decide) (fun c7 => ?_) (fun c7 => ?_)
    · exact absurd (nI_lt (b := 7) (by omega) (by decide)) c7
    · show zS _ _ _ _ _ _ _ 10 _ _ _ _ _
      refine z_iload1 dX1_lateOfClauses_10 ?_
      refine z_aload0 dX1_lateOfClauses_11 ?_
      refine z_iload2 dX1_lateOfClauses_12 ?_
      refine z_callV zmd_X1_clause rfl (by decide) zl_RX1_23 zin_X1_clause zsel_X1_clause (B_X1_clause (d := d - 1) hW hF hw _ _ hi he) hi rfl rfl (by omega) rfl dX1_lateOfClauses_13 (fun r1 g1 f1 mc1 ms1 q1 => ?_)
      obtain ⟨rfl, rfl, rfl, rfl, rfl⟩ := q1
      refine z_callS zmd_X1_lateOf zl_RX1_55 zst_X1_lateOf (B_X1_lateOf (d := d - 1) hW hF hw _ (bclause_in hw hW hi he)) rfl rfl (by omega) rfl dX1_lateOfClauses_16 (fun r2 g2 f2 mc2 ms2 q2 => ?_)
      obtain ⟨rfl, rfl, rfl, rfl, rfl⟩ := q2
      refine z_ior dX1_lateOfClauses_19 ?_
      refine z_istore1 dX1_lateOfClauses_20 ?_
      refine z_iinc2 (y := 1) dX1_lateOfClauses_21 (by decide) ?_
      refine z_goto (tgt := 4) dX1_lateOfClauses_24 (by decide) ?_
      rw [nI_1]
      exact ih (k + 1) _ (by omega) kk
set_option maxRecDepth 20000 in
set_option maxHeartbeats 400000 in
theorem B_X1_leavesOfHandler {l : Launch} {d : Nat} {D : zD} {b0 : Nat} {g : zG} {f C : zI} {R : zRf} {c : Nat} (hW : CW b0 g c) (hF : CF c R) (hw : zOK b0 zNo (gv c g R)) (e : Nat) (hi : zIn b0 g e 1) (he : eOK g c e) (hd : 2 ≤ d) : zM l d D b0 mX1_leavesOfHandler [.ref e] (gv c g R) (cv c f C) (zEx (some (.int (gleavesH g f e))) (gv c g R) (cv c f C)) := by
  refine zM.start zmd_X1_leavesOfHandler (Nat.le_of_ble_eq_true rfl) ⟨rfl, trivial⟩ [some (.ref e), none, none, none] rfl ?_
  refine z_aload0 dX1_leavesOfHandler_0 ?_
  refine zd_getN hw hW fl_RX1_41 hi (by decide) (by decide) dX1_leavesOfHandler_1 (fun i1 => ?_)
  refine z_callS zmd_X1_leavesOf zl_RX1_45 zst_X1_leavesOf (B_X1_leavesOf (d := d - 1) hW hF hw _ i1) rfl rfl (by omega) rfl dX1_leavesOfHandler_4 (fun r2 g2 f2 mc2 ms2 q2 => ?_)
  obtain ⟨rfl, rfl, rfl, rfl, rfl⟩ := q2
  refine z_istore1 dX1_leavesOfHandler_7 ?_
  refine z_iconst (v := 0) dX1_leavesOfHandler_8 (by decide) ?_
  refine z_istore2 dX1_leavesOfHandler_9 ?_
  refine Bl_X1_lh1 hW hF hw e hi he hd _ none 6 0 _ (by omega) ?_
  show zS _ _ _ _ _ _ _ 36 _ _ _ _ _
  refine z_iload1 dX1_leavesOfHandler_36 ?_
  refine z_aload0 dX1_leavesOfHandler_37 ?_
  refine zd_getN hw hW fl_RX1_41 hi (by decide) (by decide) dX1_leavesOfHandler_38 (fun i1 => ?_)
  refine z_callS zmd_X1_lateOf zl_RX1_55 zst_X1_lateOf (B_X1_lateOf (d := d - 1) hW hF hw _ i1) rfl rfl (by omega) rfl dX1_leavesOfHandler_41 (fun r2 g2 f2 mc2 ms2 q2 => ?_)
  obtain ⟨rfl, rfl, rfl, rfl, rfl⟩ := q2
  refine z_ior dX1_leavesOfHandler_44 ?_
  refine z_istore2 dX1_leavesOfHandler_45 ?_
  refine z_iconst (v := 0) dX1_leavesOfHandler_46 (by decide) ?_
  refine z_istore3 dX1_leavesOfHandler_47 ?_
  refine Bl_X1_lh2 hW hF hw e hi he hd _ _ 7 0 _ (by omega) ?_
  show zS _ _ _ _ _ _ _ 71 _ _ _ _ _
  refine z_iload2 dX1_leavesOfHandler_71 ?_
  refine z_iret dX1_leavesOfHandler_72 rfl ?_
  exact ⟨rfl, rfl, rfl, rfl, rfl⟩
set_option maxRecDepth 20000 in
set_option maxHeartbeats 400000 in
theorem B_X1_lateOfClauses {l : Launch} {d : Nat} {D : zD} {b0 : Nat} {g : zG} {f C : zI} {R : zRf} {c : Nat} (hW : CW b0 g c) (hF : CF c R) (hw : zOK b0 zNo (gv c g R)) (e : Nat) (hi : zIn b0 g e 1) (he : eOK g c e) (hd : 2 ≤ d) : zM l d D b0 mX1_lateOfClauses [.ref e] (gv c g R) (cv c f C) (zEx (some (.int (glateC g f e))) (gv c g R) (cv c f C)) := by
  refine zM.start zmd_X1_lateOfClauses (Nat.le_of_ble_eq_true rfl) ⟨rfl, trivial⟩ [some (.ref e), none, none] rfl ?_
  refine z_iconst (v := 0) dX1_lateOfClauses_0 (by decide) ?_
  refine z_istore1 dX1_lateOfClauses_1 ?_
  refine z_iconst (v := 0) dX1_lateOfClauses_2 (by decide) ?_
  refine z_istore2 dX1_lateOfClauses_3 ?_
  refine Bl_X1_lc hW hF hw e hi he hd _ 0 7 0 _ (by omega) ?_
  show zS _ _ _ _ _ _ _ 27 _ _ _ _ _
  refine z_iload1 dX1_lateOfClauses_27 ?_
  refine z_iret dX1_lateOfClauses_28 rfl ?_
  exact ⟨rfl, rfl, rfl, rfl, rfl⟩
/-- the body that a call names: its root -/
def gcalled (g : zG) (R : zRf) (m : Int32) : Option Nat := if ¬ m < 0 ∧ m < 4 then (match R 18 (tn m) with
  | none => none
  | some b => some (pA g b 0)) else none
def gnl0 (g : zG) (f : zI) (e : Nat) : Int32 := (glv f (g.2.2.2 e 2) ||| glv f (g.2.2.2 e 3)) ||| glv f (g.2.2.2 e 4)
def gnt0 (g : zG) (f : zI) (e : Nat) : Int32 := (glt f (g.2.2.2 e 2) ||| glt f (g.2.2.2 e 3)) ||| glt f (g.2.2.2 e 4)
def gnl (g : zG) (R : zRf) (f : zI) (e : Nat) : Int32 := if f e 0 = 37 then gnl0 g f e else if f e 0 = 38 then gnl0 g f e ||| glv f (gcalled g R (f e 1)) else if f e 0 = 64 then gnl0 g f e ||| glv f (g.2.2.2 e 7) else if f e 0 = 94 then gnl0 g f e ||| gpair (f e 1) 0 else if f e 0 = 123 then gleavesH g f e else if f e 0 = 126 then grai (gnl0 g f e) (f e 1) else gnl0 g f e
theorem gnl_37 {g : zG} {R : zRf} {f : zI} {e : Nat} (h : f e 0 = 37) : gnl g R f e = gnl0 g f e := by
  unfold gnl
  rw [if_pos h]
theorem gnl_38 {g : zG} {R : zRf} {f : zI} {e : Nat} (h : f e 0 = 38) : gnl g R f e = gnl0 g f e ||| glv f (gcalled g R (f e 1)) := by
  unfold gnl
  rw [if_neg (show ¬ f e 0 = 37 by rw [h]; decide), if_pos h]
theorem gnl_64 {g : zG} {R : zRf} {f : zI} {e : Nat} (h : f e 0 = 64) : gnl g R f e = gnl0 g f e ||| glv f (g.2.2.2 e 7) := by
  unfold gnl
  rw [if_neg (show ¬ f e 0 = 37 by rw [h]; decide), if_neg (show ¬ f e 0 = 38 by rw [h]; decide), if_pos h]
theorem gnl_94 {g : zG} {R : zRf} {f : zI} {e : Nat} (h : f e 0 = 94) : gnl g R f e = gnl0 g f e ||| gpair (f e 1) 0 := by
  unfold gnl
  rw [if_neg (show ¬ f e 0 = 37 by rw [h]; decide), if_neg (show ¬ f e 0 = 38 by rw [h]; decide), if_neg (show ¬ f e 0 = 64 by rw [h]; decide), if_pos h]
theorem gnl_123 {g : zG} {R : zRf} {f : zI} {e : Nat} (h : f e 0 = 123) : gnl g R f e = gleavesH g f e := by
  unfold gnl
  rw [if_neg (show ¬ f e 0 = 37 by rw [h]; decide), if_neg (show ¬ f e 0 = 38 by rw [h]; decide), if_neg (show ¬ f e 0 = 64 by rw [h]; decide), if_neg (show ¬ f e 0 = 94 by rw [h]; decide), if_pos h]
theorem gnl_126 {g : zG} {R : zRf} {f : zI} {e : Nat} (h : f e 0 = 126) : gnl g R f e = grai (gnl0 g f e) (f e 1) := by
  unfold gnl
  rw [if_neg (show ¬ f e 0 = 37 by rw [h]; decide), if_neg (show ¬ f e 0 = 38 by rw [h]; decide), if_neg (show ¬ f e 0 = 64 by rw [h]; decide), if_neg (show ¬ f e 0 = 94 by rw [h]; decide), if_neg (show ¬ f e 0 = 123 by rw [h]; decide), if_pos h]
theorem gnl_d {g : zG} {R : zRf} {f : zI} {e : Nat} (h37 : ¬ f e 0 = 37) (h38 : ¬ f e 0 = 38) (h64 : ¬ f e 0 = 64) (h94 : ¬ f e 0 = 94) (h123 : ¬ f e 0 = 123) (h126 : ¬ f e 0 = 126) : gnl g R f e = gnl0 g f e := by
  unfold gnl
  rw [if_neg h37, if_neg h38, if_neg h64, if_neg h94, if_neg h123, if_neg h126]
def gnt (g : zG) (R : zRf) (f : zI) (e : Nat) : Int32 := if f e 0 = 37 then gnt0 g f e ||| glv f (g.2.2.2 e 3) else if f e 0 = 38 then gnt0 g f e ||| glt f (gcalled g R (f e 1)) else if f e 0 = 64 then gnt0 g f e ||| glt f (g.2.2.2 e 7) else if f e 0 = 94 then gnt0 g f e else if f e 0 = 123 then gnt0 g f e ||| glateC g f e else if f e 0 = 126 then gnt0 g f e else gnt0 g f e
theorem gnt_37 {g : zG} {R : zRf} {f : zI} {e : Nat} (h : f e 0 = 37) : gnt g R f e = gnt0 g f e ||| glv f (g.2.2.2 e 3) := by
  unfold gnt
  rw [if_pos h]
theorem gnt_38 {g : zG} {R : zRf} {f : zI} {e : Nat} (h : f e 0 = 38) : gnt g R f e = gnt0 g f e ||| glt f (gcalled g R (f e 1)) := by
  unfold gnt
  rw [if_neg (show ¬ f e 0 = 37 by rw [h]; decide), if_pos h]
theorem gnt_64 {g : zG} {R : zRf} {f : zI} {e : Nat} (h : f e 0 = 64) : gnt g R f e = gnt0 g f e ||| glt f (g.2.2.2 e 7) := by
  unfold gnt
  rw [if_neg (show ¬ f e 0 = 37 by rw [h]; decide), if_neg (show ¬ f e 0 = 38 by rw [h]; decide), if_pos h]
theorem gnt_94 {g : zG} {R : zRf} {f : zI} {e : Nat} (h : f e 0 = 94) : gnt g R f e = gnt0 g f e := by
  unfold gnt
  rw [if_neg (show ¬ f e 0 = 37 by rw [h]; decide), if_neg (show ¬ f e 0 = 38 by rw [h]; decide), if_neg (show ¬ f e 0 = 64 by rw [h]; decide), if_pos h]
theorem gnt_123 {g : zG} {R : zRf} {f : zI} {e : Nat} (h : f e 0 = 123) : gnt g R f e = gnt0 g f e ||| glateC g f e := by
  unfold gnt
  rw [if_neg (show ¬ f e 0 = 37 by rw [h]; decide), if_neg (show ¬ f e 0 = 38 by rw [h]; decide), if_neg (show ¬ f e 0 = 64 by rw [h]; decide), if_neg (show ¬ f e 0 = 94 by rw [h]; decide), if_pos h]
theorem gnt_126 {g : zG} {R : zRf} {f : zI} {e : Nat} (h : f e 0 = 126) : gnt g R f e = gnt0 g f e := by
  unfold gnt
  rw [if_neg (show ¬ f e 0 = 37 by rw [h]; decide), if_neg (show ¬ f e 0 = 38 by rw [h]; decide), if_neg (show ¬ f e 0 = 64 by rw [h]; decide), if_neg (show ¬ f e 0 = 94 by rw [h]; decide), if_neg (show ¬ f e 0 = 123 by rw [h]; decide), if_pos h]
theorem gnt_d {g : zG} {R : zRf} {f : zI} {e : Nat} (h37 : ¬ f e 0 = 37) (h38 : ¬ f e 0 = 38) (h64 : ¬ f e 0 = 64) (h94 : ¬ f e 0 = 94) (h123 : ¬ f e 0 = 123) (h126 : ¬ f e 0 = 126) : gnt g R f e = gnt0 g f e := by
  unfold gnt
  rw [if_neg h37, if_neg h38, if_neg h64, if_neg h94, if_neg h123, if_neg h126]
def ggatF (g : zG) (R : zRf) (f : zI) (e : Nat) : zI := zup (zup f e 8 (gnl g R f e)) e 9 (gnt g R f e)
def ggatA (g : zG) (R : zRf) (f : zI) (e : Nat) : Int32 := if ¬ gnl g R f e = f e 8 then 1 else if gnt g R f e = f e 9 then 0 else 1
theorem ggatA_1 {g : zG} {R : zRf} {f : zI} {e : Nat} (h : ¬ gnl g R f e = f e 8) : ggatA g R f e = 1 := if_pos h
theorem ggatA_0 {g : zG} {R : zRf} {f : zI} {e : Nat} (h : gnl g R f e = f e 8) (h2 : gnt g R f e = f e 9) : ggatA g R f e = 0 := (if_neg (fun q => q h)).trans (if_pos h2)
theorem ggatA_2 {g : zG} {R : zRf} {f : zI} {e : Nat} (h : gnl g R f e = f e 8) (h2 : ¬ gnt g R f e = f e 9) : ggatA g R f e = 1 := (if_neg (fun q => q h)).trans (if_neg h2)
theorem gcalled_n {g : zG} {R : zRf} {m : Int32} (h : ¬ (¬ m < 0 ∧ m < 4)) : gcalled g R m = none := if_neg h
theorem gcalled_0 {g : zG} {R : zRf} {m : Int32} (h : ¬ m < 0 ∧ m < 4) (h2 : R 18 (tn m) = none) : gcalled g R m = none := by unfold gcalled; rw [if_pos h, h2]
theorem gcalled_s {g : zG} {R : zRf} {m : Int32} {b : Nat} (h : ¬ m < 0 ∧ m < 4) (h2 : R 18 (tn m) = some b) : gcalled g R m = some (pA g b 0) := by unfold gcalled; rw [if_pos h, h2]
theorem iv4 {x : Int32} (h : ¬ x < 0 ∧ x < 4) : iv 4 x := by
  obtain ⟨q, h1, h2⟩ := nI_of h.1
  have h3 := h.2
  rw [h2] at h3 ⊢
  exact iv_nI (by have := (nI_ltI (b := 4) h1 (by decide)).mp h3; omega) (by decide)
set_option maxRecDepth 20000 in
set_option maxHeartbeats 400000 in
theorem B_X1_gather {l : Launch} {d : Nat} {D : zD} {b0 : Nat} {g : zG} {f C : zI} {R : zRf} {c : Nat} (hW : CW b0 g c) (hF : CF c R) (hw : zOK b0 zNo (gv c g R)) (e : Nat) (hi : zIn b0 g e 1) (he : eOK g c e) (hd : 3 ≤ d) : zM l d D b0 mX1_gather [.ref e, .ref (c + 14)] (gv c g R) (cv c f C) (zCy b0 zNo c g (some (.int (ggatA g R f e))) g R (ggatF g R f e) C 0 0) := by
  refine zM.start zmd_X1_gather (Nat.le_of_ble_eq_true rfl) ⟨rfl, rfl, trivial⟩ [some (.ref e), some (.ref (c + 14)), none, none, none] rfl ?_
  refine z_aload0 dX1_gather_0 ?_
  refine zd_getN hw hW fl_RX1_41 hi (by decide) (by decide) dX1_gather_1 (fun i1 => ?_)
  refine z_callS zmd_X1_leavesOf zl_RX1_45 zst_X1_leavesOf (B_X1_leavesOf (d := d - 1) hW hF hw _ i1) rfl rfl (by omega) rfl dX1_gather_4 (fun r2 g2 f2 mc2 ms2 q2 => ?_)
  obtain ⟨rfl, rfl, rfl, rfl, rfl⟩ := q2
  refine z_aload0 dX1_gather_7 ?_
  refine zd_getN hw hW fl_RX1_49 hi (by decide) (by decide) dX1_gather_8 (fun i3 => ?_)
  refine z_callS zmd_X1_leavesOf zl_RX1_45 zst_X1_leavesOf (B_X1_leavesOf (d := d - 1) hW hF hw _ i3) rfl rfl (by omega) rfl dX1_gather_11 (fun r4 g4 f4 mc4 ms4 q4 => ?_)
  obtain ⟨rfl, rfl, rfl, rfl, rfl⟩ := q4
  refine z_ior dX1_gather_14 ?_
  refine z_aload0 dX1_gather_15 ?_
  refine zd_getN hw hW fl_RX1_52 hi (by decide) (by decide) dX1_gather_16 (fun i5 => ?_)
  refine z_callS zmd_X1_leavesOf zl_RX1_45 zst_X1_leavesOf (B_X1_leavesOf (d := d - 1) hW hF hw _ i5) rfl rfl (by omega) rfl dX1_gather_19 (fun r6 g6 f6 mc6 ms6 q6 => ?_)
  obtain ⟨rfl, rfl, rfl, rfl, rfl⟩ := q6
  refine z_ior dX1_gather_22 ?_
  show zS _ _ _ _ _ _ _ 23 _ _ _ _ _
  refine z_istore2 dX1_gather_23 ?_
  refine z_aload0 dX1_gather_24 ?_
  refine zd_getN hw hW fl_RX1_41 hi (by decide) (by decide) dX1_gather_25 (fun i7 => ?_)
  refine z_callS zmd_X1_lateOf zl_RX1_55 zst_X1_lateOf (B_X1_lateOf (d := d - 1) hW hF hw _ i7) rfl rfl (by omega) rfl dX1_gather_28 (fun r8 g8 f8 mc8 ms8 q8 => ?_)
  obtain ⟨rfl, rfl, rfl, rfl, rfl⟩ := q8
  refine z_aload0 dX1_gather_31 ?_
  refine zd_getN hw hW fl_RX1_49 hi (by decide) (by decide) dX1_gather_32 (fun i9 => ?_)
  refine z_callS zmd_X1_lateOf zl_RX1_55 zst_X1_lateOf (B_X1_lateOf (d := d - 1) hW hF hw _ i9) rfl rfl (by omega) rfl dX1_gather_35 (fun r10 g10 f10 mc10 ms10 q10 => ?_)
  obtain ⟨rfl, rfl, rfl, rfl, rfl⟩ := q10
  refine z_ior dX1_gather_38 ?_
  refine z_aload0 dX1_gather_39 ?_
  refine zd_getN hw hW fl_RX1_52 hi (by decide) (by decide) dX1_gather_40 (fun i11 => ?_)
  refine z_callS zmd_X1_lateOf zl_RX1_55 zst_X1_lateOf (B_X1_lateOf (d := d - 1) hW hF hw _ i11) rfl rfl (by omega) rfl dX1_gather_43 (fun r12 g12 f12 mc12 ms12 q12 => ?_)
  obtain ⟨rfl, rfl, rfl, rfl, rfl⟩ := q12
  refine z_ior dX1_gather_46 ?_
  show zS _ _ _ _ _ _ _ 47 _ _ _ _ _
  refine z_istore3 dX1_gather_47 ?_
  refine z_aload0 dX1_gather_48 ?_
  refine zd_getI hW fl_RX1_9 hi (by decide) dX1_gather_49 ?_
  refine z_look dX1_gather_52 (by decide +kernel) (by decide +kernel) ?_
  refine ⟨fun c52_0 => ?_, fun nc52_0 => ?_⟩
  · show zS _ _ _ _ _ _ _ 138 _ _ _ _ _
    have el := gnl_37 (g := g) (R := R) (f := f) (e := e) c52_0
    have et := gnt_37 (g := g) (R := R) (f := f) (e := e) c52_0
    refine z_iload3 dX1_gather_138 ?_
    refine z_aload0 dX1_gather_139 ?_
    refine zd_getN hw hW fl_RX1_49 hi (by decide) (by decide) dX1_gather_140 (fun i13 => ?_)
    refine z_callS zmd_X1_leavesOf zl_RX1_45 zst_X1_leavesOf (B_X1_leavesOf (d := d - 1) hW hF hw _ i13) rfl rfl (by omega) rfl dX1_gather_143 (fun r14 g14 f14 mc14 ms14 q14 => ?_)
    obtain ⟨rfl, rfl, rfl, rfl, rfl⟩ := q14
    refine z_ior dX1_gather_146 ?_
    refine z_istore3 dX1_gather_147 ?_
    refine z_goto (tgt := 242) dX1_gather_148 (by decide) ?_
    show zS _ _ _ _ _ _ _ 242 _ _ _ _ _
    refine z_iload2 dX1_gather_242 ?_
    refine z_aload0 dX1_gather_243 ?_
    refine zd_getI hW fl_RX1_27 hi (by decide) dX1_gather_244 ?_
    refine z_icmp_ne (tgt := 258) dX1_gather_247 (by decide) (fun c247 => ?_) (fun c247 => ?_)
    · show zS _ _ _ _ _ _ _ 258 _ _ _ _ _
      refine z_iconst (v := 1) dX1_gather_258 (by decide) ?_
      refine z_goto (tgt := 263) dX1_gather_259 (by decide) ?_
      show zS _ _ _ _ _ _ _ 263 _ _ _ _ _
      refine z_istore4 dX1_gather_263 ?_
      refine z_aload0 dX1_gather_265 ?_
      refine z_iload2 dX1_gather_266 ?_
      refine zd_putI hW fl_RX1_27 hi (by decide) dX1_gather_267 ?_
      refine z_aload0 dX1_gather_270 ?_
      refine z_iload3 dX1_gather_271 ?_
      refine zd_putI hW fl_RX1_30 hi (by decide) dX1_gather_272 ?_
      refine z_iload4 dX1_gather_275 ?_
      refine z_iret dX1_gather_277 rfl ?_
      rw [show ggatA g R f e = _ from ggatA_1 (by rw [el]; exact c247)]
      show zCy _ _ _ _ _ _ _ (zup (zup f e 8 (gnl g R f e)) e 9 (gnt g R f e)) _ _ _ _ _ _ _ _
      rw [el, et]
      exact ⟨rfl, rfl, rfl, by omega, by omega, hw, zLe.rf, hW⟩
    · show zS _ _ _ _ _ _ _ 250 _ _ _ _ _
      refine z_iload3 dX1_gather_250 ?_
      refine z_aload0 dX1_gather_251 ?_
      refine zd_getI hW fl_RX1_30 hi (by decide) dX1_gather_252 ?_
      refine z_icmp_eq (tgt := 262) dX1_gather_255 (by decide) (fun c255 => ?_) (fun c255 => ?_)
      · show zS _ _ _ _ _ _ _ 262 _ _ _ _ _
        refine z_iconst (v := 0) dX1_gather_262 (by decide) ?_
        refine z_istore4 dX1_gather_263 ?_
        refine z_aload0 dX1_gather_265 ?_
        refine z_iload2 dX1_gather_266 ?_
        refine zd_putI hW fl_RX1_27 hi (by decide) dX1_gather_267 ?_
        refine z_aload0 dX1_gather_270 ?_
        refine z_iload3 dX1_gather_271 ?_
        refine zd_putI hW fl_RX1_30 hi (by decide) dX1_gather_272 ?_
        refine z_iload4 dX1_gather_275 ?_
        refine z_iret dX1_gather_277 rfl ?_
        rw [show ggatA g R f e = _ from ggatA_0 (el.trans c247) (et.trans c255)]
        show zCy _ _ _ _ _ _ _ (zup (zup f e 8 (gnl g R f e)) e 9 (gnt g R f e)) _ _ _ _ _ _ _ _
        rw [el, et]
        exact ⟨rfl, rfl, rfl, by omega, by omega, hw, zLe.rf, hW⟩
      · show zS _ _ _ _ _ _ _ 258 _ _ _ _ _
        refine z_iconst (v := 1) dX1_gather_258 (by decide) ?_
        refine z_goto (tgt := 263) dX1_gather_259 (by decide) ?_
        show zS _ _ _ _ _ _ _ 263 _ _ _ _ _
        refine z_istore4 dX1_gather_263 ?_
        refine z_aload0 dX1_gather_265 ?_
        refine z_iload2 dX1_gather_266 ?_
        refine zd_putI hW fl_RX1_27 hi (by decide) dX1_gather_267 ?_
        refine z_aload0 dX1_gather_270 ?_
        refine z_iload3 dX1_gather_271 ?_
        refine zd_putI hW fl_RX1_30 hi (by decide) dX1_gather_272 ?_
        refine z_iload4 dX1_gather_275 ?_
        refine z_iret dX1_gather_277 rfl ?_
        rw [show ggatA g R f e = _ from ggatA_2 (el.trans c247) (by rw [et]; exact c255)]
        show zCy _ _ _ _ _ _ _ (zup (zup f e 8 (gnl g R f e)) e 9 (gnt g R f e)) _ _ _ _ _ _ _ _
        rw [el, et]
        exact ⟨rfl, rfl, rfl, by omega, by omega, hw, zLe.rf, hW⟩
  refine ⟨fun c52_1 => ?_, fun nc52_1 => ?_⟩
  · show zS _ _ _ _ _ _ _ 151 _ _ _ _ _
    have el := gnl_38 (g := g) (R := R) (f := f) (e := e) c52_1
    have et := gnt_38 (g := g) (R := R) (f := f) (e := e) c52_1
    refine z_aload0 dX1_gather_151 ?_
    refine zd_getI hW fl_RX1_58 hi (by decide) dX1_gather_152 ?_
    refine z_callSNi zmd_X11_isProcedure (host := "EffectMachine") (by decide) zst_X11_isProcedure (K_X11_isProcedure (d := d - 1) _) rfl rfl (by omega) rfl dX1_gather_155 ?_
    refine z_if_eq (tgt := 182) dX1_gather_158 (by decide) (fun c158 => ?_) (fun c158 => ?_)
    · show zS _ _ _ _ _ _ _ 182 _ _ _ _ _
      rw [gcalled_n (zB_f c158)] at el et
      refine z_null dX1_gather_182 ?_
      refine z_astore4 dX1_gather_183 ?_
      refine z_iload2 dX1_gather_185 ?_
      refine z_aload4 dX1_gather_186 ?_
      refine z_callS zmd_X1_leavesOf zl_RX1_45 zst_X1_leavesOf (B_X1_leavesOf (d := d - 1) hW hF hw none (fun b hb => by cases hb)) rfl rfl (by omega) rfl dX1_gather_188 (fun r16 g16 f16 mc16 ms16 q16 => ?_)
      obtain ⟨rfl, rfl, rfl, rfl, rfl⟩ := q16
      refine z_ior dX1_gather_191 ?_
      refine z_istore2 dX1_gather_192 ?_
      refine z_iload3 dX1_gather_193 ?_
      refine z_aload4 dX1_gather_194 ?_
      refine z_callS zmd_X1_lateOf zl_RX1_55 zst_X1_lateOf (B_X1_lateOf (d := d - 1) hW hF hw none (fun b hb => by cases hb)) rfl rfl (by omega) rfl dX1_gather_196 (fun r17 g17 f17 mc17 ms17 q17 => ?_)
      obtain ⟨rfl, rfl, rfl, rfl, rfl⟩ := q17
      refine z_ior dX1_gather_199 ?_
      show zS _ _ _ _ _ _ _ 200 _ _ _ _ _
      refine z_istore3 dX1_gather_200 ?_
      refine z_goto (tgt := 242) dX1_gather_201 (by decide) ?_
      show zS _ _ _ _ _ _ _ 242 _ _ _ _ _
      refine z_iload2 dX1_gather_242 ?_
      refine z_aload0 dX1_gather_243 ?_
      refine zd_getI hW fl_RX1_27 hi (by decide) dX1_gather_244 ?_
      refine z_icmp_ne (tgt := 258) dX1_gather_247 (by decide) (fun c247 => ?_) (fun c247 => ?_)
      · show zS _ _ _ _ _ _ _ 258 _ _ _ _ _
        refine z_iconst (v := 1) dX1_gather_258 (by decide) ?_
        refine z_goto (tgt := 263) dX1_gather_259 (by decide) ?_
        show zS _ _ _ _ _ _ _ 263 _ _ _ _ _
        refine z_istore4 dX1_gather_263 ?_
        refine z_aload0 dX1_gather_265 ?_
        refine z_iload2 dX1_gather_266 ?_
        refine zd_putI hW fl_RX1_27 hi (by decide) dX1_gather_267 ?_
        refine z_aload0 dX1_gather_270 ?_
        refine z_iload3 dX1_gather_271 ?_
        refine zd_putI hW fl_RX1_30 hi (by decide) dX1_gather_272 ?_
        refine z_iload4 dX1_gather_275 ?_
        refine z_iret dX1_gather_277 rfl ?_
        rw [show ggatA g R f e = _ from ggatA_1 (by rw [el]; exact c247)]
        show zCy _ _ _ _ _ _ _ (zup (zup f e 8 (gnl g R f e)) e 9 (gnt g R f e)) _ _ _ _ _ _ _ _
        rw [el, et]
        exact ⟨rfl, rfl, rfl, by omega, by omega, hw, zLe.rf, hW⟩
      · show zS _ _ _ _ _ _ _ 250 _ _ _ _ _
        refine z_iload3 dX1_gather_250 ?_
        refine z_aload0 dX1_gather_251 ?_
        refine zd_getI hW fl_RX1_30 hi (by decide) dX1_gather_252 ?_
        refine z_icmp_eq (tgt := 262) dX1_gather_255 (by decide) (fun c255 => ?_) (fun c255 => ?_)
        · show zS _ _ _ _ _ _ _ 262 _ _ _ _ _
          refine z_iconst (v := 0) dX1_gather_262 (by decide) ?_
          refine z_istore4 dX1_gather_263 ?_
          refine z_aload0 dX1_gather_265 ?_
          refine z_iload2 dX1_gather_266 ?_
          refine zd_putI hW fl_RX1_27 hi (by decide) dX1_gather_267 ?_
          refine z_aload0 dX1_gather_270 ?_
          refine z_iload3 dX1_gather_271 ?_
          refine zd_putI hW fl_RX1_30 hi (by decide) dX1_gather_272 ?_
          refine z_iload4 dX1_gather_275 ?_
          refine z_iret dX1_gather_277 rfl ?_
          rw [show ggatA g R f e = _ from ggatA_0 (el.trans c247) (et.trans c255)]
          show zCy _ _ _ _ _ _ _ (zup (zup f e 8 (gnl g R f e)) e 9 (gnt g R f e)) _ _ _ _ _ _ _ _
          rw [el, et]
          exact ⟨rfl, rfl, rfl, by omega, by omega, hw, zLe.rf, hW⟩
        · show zS _ _ _ _ _ _ _ 258 _ _ _ _ _
          refine z_iconst (v := 1) dX1_gather_258 (by decide) ?_
          refine z_goto (tgt := 263) dX1_gather_259 (by decide) ?_
          show zS _ _ _ _ _ _ _ 263 _ _ _ _ _
          refine z_istore4 dX1_gather_263 ?_
          refine z_aload0 dX1_gather_265 ?_
          refine z_iload2 dX1_gather_266 ?_
          refine zd_putI hW fl_RX1_27 hi (by decide) dX1_gather_267 ?_
          refine z_aload0 dX1_gather_270 ?_
          refine z_iload3 dX1_gather_271 ?_
          refine zd_putI hW fl_RX1_30 hi (by decide) dX1_gather_272 ?_
          refine z_iload4 dX1_gather_275 ?_
          refine z_iret dX1_gather_277 rfl ?_
          rw [show ggatA g R f e = _ from ggatA_2 (el.trans c247) (by rw [et]; exact c255)]
          show zCy _ _ _ _ _ _ _ (zup (zup f e 8 (gnl g R f e)) e 9 (gnt g R f e)) _ _ _ _ _ _ _ _
          rw [el, et]
          exact ⟨rfl, rfl, rfl, by omega, by omega, hw, zLe.rf, hW⟩
    · show zS _ _ _ _ _ _ _ 161 _ _ _ _ _
      have hpm := zB_t c158
      have hpi := iv4 hpm
      have hp1 := hpi.1
      refine z_aload1 dX1_gather_161 ?_
      refine z_aload0 dX1_gather_162 ?_
      refine zd_getI hW fl_RX1_58 hi (by decide) dX1_gather_163 ?_
      refine zc_ald (j := 18) (t' := 0) hw hW rfl (by decide) (by decide) (hpi.2 : _ = nI (tn (f e 1))) (by omega) (fun _ => rfl) (by decide) dX1_gather_166 (fun i18 => ?_)
      refine z_ifnull (tgt := 182) dX1_gather_167 (by decide) (fun c167 => ?_) (fun a167 c167 => ?_)
      · show zS _ _ _ _ _ _ _ 182 _ _ _ _ _
        rw [gcalled_0 hpm c167] at el et
        refine z_null dX1_gather_182 ?_
        refine z_astore4 dX1_gather_183 ?_
        refine z_iload2 dX1_gather_185 ?_
        refine z_aload4 dX1_gather_186 ?_
        refine z_callS zmd_X1_leavesOf zl_RX1_45 zst_X1_leavesOf (B_X1_leavesOf (d := d - 1) hW hF hw none (fun b hb => by cases hb)) rfl rfl (by omega) rfl dX1_gather_188 (fun r19 g19 f19 mc19 ms19 q19 => ?_)
        obtain ⟨rfl, rfl, rfl, rfl, rfl⟩ := q19
        refine z_ior dX1_gather_191 ?_
        refine z_istore2 dX1_gather_192 ?_
        refine z_iload3 dX1_gather_193 ?_
        refine z_aload4 dX1_gather_194 ?_
        refine z_callS zmd_X1_lateOf zl_RX1_55 zst_X1_lateOf (B_X1_lateOf (d := d - 1) hW hF hw none (fun b hb => by cases hb)) rfl rfl (by omega) rfl dX1_gather_196 (fun r20 g20 f20 mc20 ms20 q20 => ?_)
        obtain ⟨rfl, rfl, rfl, rfl, rfl⟩ := q20
        refine z_ior dX1_gather_199 ?_
        show zS _ _ _ _ _ _ _ 200 _ _ _ _ _
        refine z_istore3 dX1_gather_200 ?_
        refine z_goto (tgt := 242) dX1_gather_201 (by decide) ?_
        show zS _ _ _ _ _ _ _ 242 _ _ _ _ _
        refine z_iload2 dX1_gather_242 ?_
        refine z_aload0 dX1_gather_243 ?_
        refine zd_getI hW fl_RX1_27 hi (by decide) dX1_gather_244 ?_
        refine z_icmp_ne (tgt := 258) dX1_gather_247 (by decide) (fun c247 => ?_) (fun c247 => ?_)
        · show zS _ _ _ _ _ _ _ 258 _ _ _ _ _
          refine z_iconst (v := 1) dX1_gather_258 (by decide) ?_
          refine z_goto (tgt := 263) dX1_gather_259 (by decide) ?_
          show zS _ _ _ _ _ _ _ 263 _ _ _ _ _
          refine z_istore4 dX1_gather_263 ?_
          refine z_aload0 dX1_gather_265 ?_
          refine z_iload2 dX1_gather_266 ?_
          refine zd_putI hW fl_RX1_27 hi (by decide) dX1_gather_267 ?_
          refine z_aload0 dX1_gather_270 ?_
          refine z_iload3 dX1_gather_271 ?_
          refine zd_putI hW fl_RX1_30 hi (by decide) dX1_gather_272 ?_
          refine z_iload4 dX1_gather_275 ?_
          refine z_iret dX1_gather_277 rfl ?_
          rw [show ggatA g R f e = _ from ggatA_1 (by rw [el]; exact c247)]
          show zCy _ _ _ _ _ _ _ (zup (zup f e 8 (gnl g R f e)) e 9 (gnt g R f e)) _ _ _ _ _ _ _ _
          rw [el, et]
          exact ⟨rfl, rfl, rfl, by omega, by omega, hw, zLe.rf, hW⟩
        · show zS _ _ _ _ _ _ _ 250 _ _ _ _ _
          refine z_iload3 dX1_gather_250 ?_
          refine z_aload0 dX1_gather_251 ?_
          refine zd_getI hW fl_RX1_30 hi (by decide) dX1_gather_252 ?_
          refine z_icmp_eq (tgt := 262) dX1_gather_255 (by decide) (fun c255 => ?_) (fun c255 => ?_)
          · show zS _ _ _ _ _ _ _ 262 _ _ _ _ _
            refine z_iconst (v := 0) dX1_gather_262 (by decide) ?_
            refine z_istore4 dX1_gather_263 ?_
            refine z_aload0 dX1_gather_265 ?_
            refine z_iload2 dX1_gather_266 ?_
            refine zd_putI hW fl_RX1_27 hi (by decide) dX1_gather_267 ?_
            refine z_aload0 dX1_gather_270 ?_
            refine z_iload3 dX1_gather_271 ?_
            refine zd_putI hW fl_RX1_30 hi (by decide) dX1_gather_272 ?_
            refine z_iload4 dX1_gather_275 ?_
            refine z_iret dX1_gather_277 rfl ?_
            rw [show ggatA g R f e = _ from ggatA_0 (el.trans c247) (et.trans c255)]
            show zCy _ _ _ _ _ _ _ (zup (zup f e 8 (gnl g R f e)) e 9 (gnt g R f e)) _ _ _ _ _ _ _ _
            rw [el, et]
            exact ⟨rfl, rfl, rfl, by omega, by omega, hw, zLe.rf, hW⟩
          · show zS _ _ _ _ _ _ _ 258 _ _ _ _ _
            refine z_iconst (v := 1) dX1_gather_258 (by decide) ?_
            refine z_goto (tgt := 263) dX1_gather_259 (by decide) ?_
            show zS _ _ _ _ _ _ _ 263 _ _ _ _ _
            refine z_istore4 dX1_gather_263 ?_
            refine z_aload0 dX1_gather_265 ?_
            refine z_iload2 dX1_gather_266 ?_
            refine zd_putI hW fl_RX1_27 hi (by decide) dX1_gather_267 ?_
            refine z_aload0 dX1_gather_270 ?_
            refine z_iload3 dX1_gather_271 ?_
            refine zd_putI hW fl_RX1_30 hi (by decide) dX1_gather_272 ?_
            refine z_iload4 dX1_gather_275 ?_
            refine z_iret dX1_gather_277 rfl ?_
            rw [show ggatA g R f e = _ from ggatA_2 (el.trans c247) (by rw [et]; exact c255)]
            show zCy _ _ _ _ _ _ _ (zup (zup f e 8 (gnl g R f e)) e 9 (gnt g R f e)) _ _ _ _ _ _ _ _
            rw [el, et]
            exact ⟨rfl, rfl, rfl, by omega, by omega, hw, zLe.rf, hW⟩
      · show zS _ _ _ _ _ _ _ 170 _ _ _ _ _
        refine z_aload1 dX1_gather_170 ?_
        refine z_aload0 dX1_gather_171 ?_
        refine zd_getI hW fl_RX1_58 hi (by decide) dX1_gather_172 ?_
        refine zc_alds (j := 18) (t' := 0) hw hW rfl (by decide) (by decide) (hpi.2 : _ = nI (tn (f e 1))) (by omega) (fun _ => rfl) (by decide) c167 dX1_gather_175 (fun i21 => ?_)
        rw [gcalled_s hpm c167] at el et
        refine zd_getFr hw hW fl_RX1_68 i21 (by decide) (fun h => h) (by decide) (by decide) dX1_gather_176 (fun e22 i22 => ?_)
        refine z_goto (tgt := 183) dX1_gather_179 (by decide) ?_
        show zS _ _ _ _ _ _ _ 183 _ _ _ _ _
        refine z_astore4 dX1_gather_183 ?_
        refine z_iload2 dX1_gather_185 ?_
        refine z_aload4 dX1_gather_186 ?_
        refine z_callS zmd_X1_leavesOf zl_RX1_45 zst_X1_leavesOf (B_X1_leavesOf (d := d - 1) hW hF hw (some _) (fun b hb => by cases hb; exact i22)) rfl rfl (by omega) rfl dX1_gather_188 (fun r23 g23 f23 mc23 ms23 q23 => ?_)
        obtain ⟨rfl, rfl, rfl, rfl, rfl⟩ := q23
        refine z_ior dX1_gather_191 ?_
        refine z_istore2 dX1_gather_192 ?_
        refine z_iload3 dX1_gather_193 ?_
        refine z_aload4 dX1_gather_194 ?_
        refine z_callS zmd_X1_lateOf zl_RX1_55 zst_X1_lateOf (B_X1_lateOf (d := d - 1) hW hF hw (some _) (fun b hb => by cases hb; exact i22)) rfl rfl (by omega) rfl dX1_gather_196 (fun r24 g24 f24 mc24 ms24 q24 => ?_)
        obtain ⟨rfl, rfl, rfl, rfl, rfl⟩ := q24
        refine z_ior dX1_gather_199 ?_
        refine z_istore3 dX1_gather_200 ?_
        show zS _ _ _ _ _ _ _ 201 _ _ _ _ _
        refine z_goto (tgt := 242) dX1_gather_201 (by decide) ?_
        show zS _ _ _ _ _ _ _ 242 _ _ _ _ _
        refine z_iload2 dX1_gather_242 ?_
        refine z_aload0 dX1_gather_243 ?_
        refine zd_getI hW fl_RX1_27 hi (by decide) dX1_gather_244 ?_
        refine z_icmp_ne (tgt := 258) dX1_gather_247 (by decide) (fun c247 => ?_) (fun c247 => ?_)
        · show zS _ _ _ _ _ _ _ 258 _ _ _ _ _
          refine z_iconst (v := 1) dX1_gather_258 (by decide) ?_
          refine z_goto (tgt := 263) dX1_gather_259 (by decide) ?_
          show zS _ _ _ _ _ _ _ 263 _ _ _ _ _
          refine z_istore4 dX1_gather_263 ?_
          refine z_aload0 dX1_gather_265 ?_
          refine z_iload2 dX1_gather_266 ?_
          refine zd_putI hW fl_RX1_27 hi (by decide) dX1_gather_267 ?_
          refine z_aload0 dX1_gather_270 ?_
          refine z_iload3 dX1_gather_271 ?_
          refine zd_putI hW fl_RX1_30 hi (by decide) dX1_gather_272 ?_
          refine z_iload4 dX1_gather_275 ?_
          refine z_iret dX1_gather_277 rfl ?_
          rw [show ggatA g R f e = _ from ggatA_1 (by rw [el]; exact c247)]
          show zCy _ _ _ _ _ _ _ (zup (zup f e 8 (gnl g R f e)) e 9 (gnt g R f e)) _ _ _ _ _ _ _ _
          rw [el, et]
          exact ⟨rfl, rfl, rfl, by omega, by omega, hw, zLe.rf, hW⟩
        · show zS _ _ _ _ _ _ _ 250 _ _ _ _ _
          refine z_iload3 dX1_gather_250 ?_
          refine z_aload0 dX1_gather_251 ?_
          refine zd_getI hW fl_RX1_30 hi (by decide) dX1_gather_252 ?_
          refine z_icmp_eq (tgt := 262) dX1_gather_255 (by decide) (fun c255 => ?_) (fun c255 => ?_)
          · show zS _ _ _ _ _ _ _ 262 _ _ _ _ _
            refine z_iconst (v := 0) dX1_gather_262 (by decide) ?_
            refine z_istore4 dX1_gather_263 ?_
            refine z_aload0 dX1_gather_265 ?_
            refine z_iload2 dX1_gather_266 ?_
            refine zd_putI hW fl_RX1_27 hi (by decide) dX1_gather_267 ?_
            refine z_aload0 dX1_gather_270 ?_
            refine z_iload3 dX1_gather_271 ?_
            refine zd_putI hW fl_RX1_30 hi (by decide) dX1_gather_272 ?_
            refine z_iload4 dX1_gather_275 ?_
            refine z_iret dX1_gather_277 rfl ?_
            rw [show ggatA g R f e = _ from ggatA_0 (el.trans c247) (et.trans c255)]
            show zCy _ _ _ _ _ _ _ (zup (zup f e 8 (gnl g R f e)) e 9 (gnt g R f e)) _ _ _ _ _ _ _ _
            rw [el, et]
            exact ⟨rfl, rfl, rfl, by omega, by omega, hw, zLe.rf, hW⟩
          · show zS _ _ _ _ _ _ _ 258 _ _ _ _ _
            refine z_iconst (v := 1) dX1_gather_258 (by decide) ?_
            refine z_goto (tgt := 263) dX1_gather_259 (by decide) ?_
            show zS _ _ _ _ _ _ _ 263 _ _ _ _ _
            refine z_istore4 dX1_gather_263 ?_
            refine z_aload0 dX1_gather_265 ?_
            refine z_iload2 dX1_gather_266 ?_
            refine zd_putI hW fl_RX1_27 hi (by decide) dX1_gather_267 ?_
            refine z_aload0 dX1_gather_270 ?_
            refine z_iload3 dX1_gather_271 ?_
            refine zd_putI hW fl_RX1_30 hi (by decide) dX1_gather_272 ?_
            refine z_iload4 dX1_gather_275 ?_
            refine z_iret dX1_gather_277 rfl ?_
            rw [show ggatA g R f e = _ from ggatA_2 (el.trans c247) (by rw [et]; exact c255)]
            show zCy _ _ _ _ _ _ _ (zup (zup f e 8 (gnl g R f e)) e 9 (gnt g R f e)) _ _ _ _ _ _ _ _
            rw [el, et]
            exact ⟨rfl, rfl, rfl, by omega, by omega, hw, zLe.rf, hW⟩
  refine ⟨fun c52_2 => ?_, fun nc52_2 => ?_⟩
  · show zS _ _ _ _ _ _ _ 204 _ _ _ _ _
    have el := gnl_64 (g := g) (R := R) (f := f) (e := e) c52_2
    have et := gnt_64 (g := g) (R := R) (f := f) (e := e) c52_2
    refine z_iload2 dX1_gather_204 ?_
    refine z_aload0 dX1_gather_205 ?_
    refine zd_getN hw hW fl_RX1_73 hi (by decide) (by decide) dX1_gather_206 (fun i25 => ?_)
    refine z_callS zmd_X1_leavesOf zl_RX1_45 zst_X1_leavesOf (B_X1_leavesOf (d := d - 1) hW hF hw _ i25) rfl rfl (by omega) rfl dX1_gather_209 (fun r26 g26 f26 mc26 ms26 q26 => ?_)
    obtain ⟨rfl, rfl, rfl, rfl, rfl⟩ := q26
    refine z_ior dX1_gather_212 ?_
    refine z_istore2 dX1_gather_213 ?_
    refine z_iload3 dX1_gather_214 ?_
    refine z_aload0 dX1_gather_215 ?_
    refine zd_getN hw hW fl_RX1_73 hi (by decide) (by decide) dX1_gather_216 (fun i27 => ?_)
    refine z_callS zmd_X1_lateOf zl_RX1_55 zst_X1_lateOf (B_X1_lateOf (d := d - 1) hW hF hw _ i27) rfl rfl (by omega) rfl dX1_gather_219 (fun r28 g28 f28 mc28 ms28 q28 => ?_)
    obtain ⟨rfl, rfl, rfl, rfl, rfl⟩ := q28
    refine z_ior dX1_gather_222 ?_
    show zS _ _ _ _ _ _ _ 223 _ _ _ _ _
    refine z_istore3 dX1_gather_223 ?_
    refine z_goto (tgt := 242) dX1_gather_224 (by decide) ?_
    show zS _ _ _ _ _ _ _ 242 _ _ _ _ _
    refine z_iload2 dX1_gather_242 ?_
    refine z_aload0 dX1_gather_243 ?_
    refine zd_getI hW fl_RX1_27 hi (by decide) dX1_gather_244 ?_
    refine z_icmp_ne (tgt := 258) dX1_gather_247 (by decide) (fun c247 => ?_) (fun c247 => ?_)
    · show zS _ _ _ _ _ _ _ 258 _ _ _ _ _
      refine z_iconst (v := 1) dX1_gather_258 (by decide) ?_
      refine z_goto (tgt := 263) dX1_gather_259 (by decide) ?_
      show zS _ _ _ _ _ _ _ 263 _ _ _ _ _
      refine z_istore4 dX1_gather_263 ?_
      refine z_aload0 dX1_gather_265 ?_
      refine z_iload2 dX1_gather_266 ?_
      refine zd_putI hW fl_RX1_27 hi (by decide) dX1_gather_267 ?_
      refine z_aload0 dX1_gather_270 ?_
      refine z_iload3 dX1_gather_271 ?_
      refine zd_putI hW fl_RX1_30 hi (by decide) dX1_gather_272 ?_
      refine z_iload4 dX1_gather_275 ?_
      refine z_iret dX1_gather_277 rfl ?_
      rw [show ggatA g R f e = _ from ggatA_1 (by rw [el]; exact c247)]
      show zCy _ _ _ _ _ _ _ (zup (zup f e 8 (gnl g R f e)) e 9 (gnt g R f e)) _ _ _ _ _ _ _ _
      rw [el, et]
      exact ⟨rfl, rfl, rfl, by omega, by omega, hw, zLe.rf, hW⟩
    · show zS _ _ _ _ _ _ _ 250 _ _ _ _ _
      refine z_iload3 dX1_gather_250 ?_
      refine z_aload0 dX1_gather_251 ?_
      refine zd_getI hW fl_RX1_30 hi (by decide) dX1_gather_252 ?_
      refine z_icmp_eq (tgt := 262) dX1_gather_255 (by decide) (fun c255 => ?_) (fun c255 => ?_)
      · show zS _ _ _ _ _ _ _ 262 _ _ _ _ _
        refine z_iconst (v := 0) dX1_gather_262 (by decide) ?_
        refine z_istore4 dX1_gather_263 ?_
        refine z_aload0 dX1_gather_265 ?_
        refine z_iload2 dX1_gather_266 ?_
        refine zd_putI hW fl_RX1_27 hi (by decide) dX1_gather_267 ?_
        refine z_aload0 dX1_gather_270 ?_
        refine z_iload3 dX1_gather_271 ?_
        refine zd_putI hW fl_RX1_30 hi (by decide) dX1_gather_272 ?_
        refine z_iload4 dX1_gather_275 ?_
        refine z_iret dX1_gather_277 rfl ?_
        rw [show ggatA g R f e = _ from ggatA_0 (el.trans c247) (et.trans c255)]
        show zCy _ _ _ _ _ _ _ (zup (zup f e 8 (gnl g R f e)) e 9 (gnt g R f e)) _ _ _ _ _ _ _ _
        rw [el, et]
        exact ⟨rfl, rfl, rfl, by omega, by omega, hw, zLe.rf, hW⟩
      · show zS _ _ _ _ _ _ _ 258 _ _ _ _ _
        refine z_iconst (v := 1) dX1_gather_258 (by decide) ?_
        refine z_goto (tgt := 263) dX1_gather_259 (by decide) ?_
        show zS _ _ _ _ _ _ _ 263 _ _ _ _ _
        refine z_istore4 dX1_gather_263 ?_
        refine z_aload0 dX1_gather_265 ?_
        refine z_iload2 dX1_gather_266 ?_
        refine zd_putI hW fl_RX1_27 hi (by decide) dX1_gather_267 ?_
        refine z_aload0 dX1_gather_270 ?_
        refine z_iload3 dX1_gather_271 ?_
        refine zd_putI hW fl_RX1_30 hi (by decide) dX1_gather_272 ?_
        refine z_iload4 dX1_gather_275 ?_
        refine z_iret dX1_gather_277 rfl ?_
        rw [show ggatA g R f e = _ from ggatA_2 (el.trans c247) (by rw [et]; exact c255)]
        show zCy _ _ _ _ _ _ _ (zup (zup f e 8 (gnl g R f e)) e 9 (gnt g R f e)) _ _ _ _ _ _ _ _
        rw [el, et]
        exact ⟨rfl, rfl, rfl, by omega, by omega, hw, zLe.rf, hW⟩
  refine ⟨fun c52_3 => ?_, fun nc52_3 => ?_⟩
  · show zS _ _ _ _ _ _ _ 112 _ _ _ _ _
    have el := gnl_94 (g := g) (R := R) (f := f) (e := e) c52_3
    have et := gnt_94 (g := g) (R := R) (f := f) (e := e) c52_3
    refine z_iload2 dX1_gather_112 ?_
    refine z_aload0 dX1_gather_113 ?_
    refine zd_getI hW fl_RX1_58 hi (by decide) dX1_gather_114 ?_
    refine z_iconst (v := 0) dX1_gather_117 (by decide) ?_
    refine z_callSi zmd_X1_pair zl_RX1_37 zst_X1_pair (K_X1_pair (d := d - 1) _ _) rfl rfl (by omega) rfl dX1_gather_118 ?_
    refine z_ior dX1_gather_121 ?_
    refine z_istore2 dX1_gather_122 ?_
    refine z_goto (tgt := 242) dX1_gather_123 (by decide) ?_
    show zS _ _ _ _ _ _ _ 242 _ _ _ _ _
    refine z_iload2 dX1_gather_242 ?_
    refine z_aload0 dX1_gather_243 ?_
    refine zd_getI hW fl_RX1_27 hi (by decide) dX1_gather_244 ?_
    refine z_icmp_ne (tgt := 258) dX1_gather_247 (by decide) (fun c247 => ?_) (fun c247 => ?_)
    · show zS _ _ _ _ _ _ _ 258 _ _ _ _ _
      refine z_iconst (v := 1) dX1_gather_258 (by decide) ?_
      refine z_goto (tgt := 263) dX1_gather_259 (by decide) ?_
      show zS _ _ _ _ _ _ _ 263 _ _ _ _ _
      refine z_istore4 dX1_gather_263 ?_
      refine z_aload0 dX1_gather_265 ?_
      refine z_iload2 dX1_gather_266 ?_
      refine zd_putI hW fl_RX1_27 hi (by decide) dX1_gather_267 ?_
      refine z_aload0 dX1_gather_270 ?_
      refine z_iload3 dX1_gather_271 ?_
      refine zd_putI hW fl_RX1_30 hi (by decide) dX1_gather_272 ?_
      refine z_iload4 dX1_gather_275 ?_
      refine z_iret dX1_gather_277 rfl ?_
      rw [show ggatA g R f e = _ from ggatA_1 (by rw [el]; exact c247)]
      show zCy _ _ _ _ _ _ _ (zup (zup f e 8 (gnl g R f e)) e 9 (gnt g R f e)) _ _ _ _ _ _ _ _
      rw [el, et]
      exact ⟨rfl, rfl, rfl, by omega, by omega, hw, zLe.rf, hW⟩
    · show zS _ _ _ _ _ _ _ 250 _ _ _ _ _
      refine z_iload3 dX1_gather_250 ?_
      refine z_aload0 dX1_gather_251 ?_
      refine zd_getI hW fl_RX1_30 hi (by decide) dX1_gather_252 ?_
      refine z_icmp_eq (tgt := 262) dX1_gather_255 (by decide) (fun c255 => ?_) (fun c255 => ?_)
      · show zS _ _ _ _ _ _ _ 262 _ _ _ _ _
        refine z_iconst (v := 0) dX1_gather_262 (by decide) ?_
        refine z_istore4 dX1_gather_263 ?_
        refine z_aload0 dX1_gather_265 ?_
        refine z_iload2 dX1_gather_266 ?_
        refine zd_putI hW fl_RX1_27 hi (by decide) dX1_gather_267 ?_
        refine z_aload0 dX1_gather_270 ?_
        refine z_iload3 dX1_gather_271 ?_
        refine zd_putI hW fl_RX1_30 hi (by decide) dX1_gather_272 ?_
        refine z_iload4 dX1_gather_275 ?_
        refine z_iret dX1_gather_277 rfl ?_
        rw [show ggatA g R f e = _ from ggatA_0 (el.trans c247) (et.trans c255)]
        show zCy _ _ _ _ _ _ _ (zup (zup f e 8 (gnl g R f e)) e 9 (gnt g R f e)) _ _ _ _ _ _ _ _
        rw [el, et]
        exact ⟨rfl, rfl, rfl, by omega, by omega, hw, zLe.rf, hW⟩
      · show zS _ _ _ _ _ _ _ 258 _ _ _ _ _
        refine z_iconst (v := 1) dX1_gather_258 (by decide) ?_
        refine z_goto (tgt := 263) dX1_gather_259 (by decide) ?_
        show zS _ _ _ _ _ _ _ 263 _ _ _ _ _
        refine z_istore4 dX1_gather_263 ?_
        refine z_aload0 dX1_gather_265 ?_
        refine z_iload2 dX1_gather_266 ?_
        refine zd_putI hW fl_RX1_27 hi (by decide) dX1_gather_267 ?_
        refine z_aload0 dX1_gather_270 ?_
        refine z_iload3 dX1_gather_271 ?_
        refine zd_putI hW fl_RX1_30 hi (by decide) dX1_gather_272 ?_
        refine z_iload4 dX1_gather_275 ?_
        refine z_iret dX1_gather_277 rfl ?_
        rw [show ggatA g R f e = _ from ggatA_2 (el.trans c247) (by rw [et]; exact c255)]
        show zCy _ _ _ _ _ _ _ (zup (zup f e 8 (gnl g R f e)) e 9 (gnt g R f e)) _ _ _ _ _ _ _ _
        rw [el, et]
        exact ⟨rfl, rfl, rfl, by omega, by omega, hw, zLe.rf, hW⟩
  refine ⟨fun c52_4 => ?_, fun nc52_4 => ?_⟩
  · show zS _ _ _ _ _ _ _ 227 _ _ _ _ _
    have el := gnl_123 (g := g) (R := R) (f := f) (e := e) c52_4
    have et := gnt_123 (g := g) (R := R) (f := f) (e := e) c52_4
    refine z_aload0 dX1_gather_227 ?_
    refine z_callVi zmd_X1_leavesOfHandler rfl (by decide) zl_RX1_76 zin_X1_leavesOfHandler zsel_X1_leavesOfHandler (B_X1_leavesOfHandler (d := d - 1) hW hF hw _ hi he (by omega)) hi rfl rfl (by omega) rfl dX1_gather_228 ?_
    refine z_istore2 dX1_gather_231 ?_
    refine z_iload3 dX1_gather_232 ?_
    refine z_aload0 dX1_gather_233 ?_
    refine z_callVi zmd_X1_lateOfClauses rfl (by decide) zl_RX1_80 zin_X1_lateOfClauses zsel_X1_lateOfClauses (B_X1_lateOfClauses (d := d - 1) hW hF hw _ hi he (by omega)) hi rfl rfl (by omega) rfl dX1_gather_234 ?_
    refine z_ior dX1_gather_237 ?_
    refine z_istore3 dX1_gather_238 ?_
    refine z_goto (tgt := 242) dX1_gather_239 (by decide) ?_
    show zS _ _ _ _ _ _ _ 242 _ _ _ _ _
    refine z_iload2 dX1_gather_242 ?_
    refine z_aload0 dX1_gather_243 ?_
    refine zd_getI hW fl_RX1_27 hi (by decide) dX1_gather_244 ?_
    refine z_icmp_ne (tgt := 258) dX1_gather_247 (by decide) (fun c247 => ?_) (fun c247 => ?_)
    · show zS _ _ _ _ _ _ _ 258 _ _ _ _ _
      refine z_iconst (v := 1) dX1_gather_258 (by decide) ?_
      refine z_goto (tgt := 263) dX1_gather_259 (by decide) ?_
      show zS _ _ _ _ _ _ _ 263 _ _ _ _ _
      refine z_istore4 dX1_gather_263 ?_
      refine z_aload0 dX1_gather_265 ?_
      refine z_iload2 dX1_gather_266 ?_
      refine zd_putI hW fl_RX1_27 hi (by decide) dX1_gather_267 ?_
      refine z_aload0 dX1_gather_270 ?_
      refine z_iload3 dX1_gather_271 ?_
      refine zd_putI hW fl_RX1_30 hi (by decide) dX1_gather_272 ?_
      refine z_iload4 dX1_gather_275 ?_
      refine z_iret dX1_gather_277 rfl ?_
      rw [show ggatA g R f e = _ from ggatA_1 (by rw [el]; exact c247)]
      show zCy _ _ _ _ _ _ _ (zup (zup f e 8 (gnl g R f e)) e 9 (gnt g R f e)) _ _ _ _ _ _ _ _
      rw [el, et]
      exact ⟨rfl, rfl, rfl, by omega, by omega, hw, zLe.rf, hW⟩
    · show zS _ _ _ _ _ _ _ 250 _ _ _ _ _
      refine z_iload3 dX1_gather_250 ?_
      refine z_aload0 dX1_gather_251 ?_
      refine zd_getI hW fl_RX1_30 hi (by decide) dX1_gather_252 ?_
      refine z_icmp_eq (tgt := 262) dX1_gather_255 (by decide) (fun c255 => ?_) (fun c255 => ?_)
      · show zS _ _ _ _ _ _ _ 262 _ _ _ _ _
        refine z_iconst (v := 0) dX1_gather_262 (by decide) ?_
        refine z_istore4 dX1_gather_263 ?_
        refine z_aload0 dX1_gather_265 ?_
        refine z_iload2 dX1_gather_266 ?_
        refine zd_putI hW fl_RX1_27 hi (by decide) dX1_gather_267 ?_
        refine z_aload0 dX1_gather_270 ?_
        refine z_iload3 dX1_gather_271 ?_
        refine zd_putI hW fl_RX1_30 hi (by decide) dX1_gather_272 ?_
        refine z_iload4 dX1_gather_275 ?_
        refine z_iret dX1_gather_277 rfl ?_
        rw [show ggatA g R f e = _ from ggatA_0 (el.trans c247) (et.trans c255)]
        show zCy _ _ _ _ _ _ _ (zup (zup f e 8 (gnl g R f e)) e 9 (gnt g R f e)) _ _ _ _ _ _ _ _
        rw [el, et]
        exact ⟨rfl, rfl, rfl, by omega, by omega, hw, zLe.rf, hW⟩
      · show zS _ _ _ _ _ _ _ 258 _ _ _ _ _
        refine z_iconst (v := 1) dX1_gather_258 (by decide) ?_
        refine z_goto (tgt := 263) dX1_gather_259 (by decide) ?_
        show zS _ _ _ _ _ _ _ 263 _ _ _ _ _
        refine z_istore4 dX1_gather_263 ?_
        refine z_aload0 dX1_gather_265 ?_
        refine z_iload2 dX1_gather_266 ?_
        refine zd_putI hW fl_RX1_27 hi (by decide) dX1_gather_267 ?_
        refine z_aload0 dX1_gather_270 ?_
        refine z_iload3 dX1_gather_271 ?_
        refine zd_putI hW fl_RX1_30 hi (by decide) dX1_gather_272 ?_
        refine z_iload4 dX1_gather_275 ?_
        refine z_iret dX1_gather_277 rfl ?_
        rw [show ggatA g R f e = _ from ggatA_2 (el.trans c247) (by rw [et]; exact c255)]
        show zCy _ _ _ _ _ _ _ (zup (zup f e 8 (gnl g R f e)) e 9 (gnt g R f e)) _ _ _ _ _ _ _ _
        rw [el, et]
        exact ⟨rfl, rfl, rfl, by omega, by omega, hw, zLe.rf, hW⟩
  refine ⟨fun c52_5 => ?_, fun nc52_5 => ?_⟩
  · show zS _ _ _ _ _ _ _ 126 _ _ _ _ _
    have el := gnl_126 (g := g) (R := R) (f := f) (e := e) c52_5
    have et := gnt_126 (g := g) (R := R) (f := f) (e := e) c52_5
    refine z_iload2 dX1_gather_126 ?_
    refine z_aload0 dX1_gather_127 ?_
    refine zd_getI hW fl_RX1_58 hi (by decide) dX1_gather_128 ?_
    refine z_callSi zmd_X1_raised zl_RX1_61 zst_X1_raised (K_X1_raised (d := d - 1) _ _ (by omega)) rfl rfl (by omega) rfl dX1_gather_131 ?_
    refine z_istore2 dX1_gather_134 ?_
    refine z_goto (tgt := 242) dX1_gather_135 (by decide) ?_
    show zS _ _ _ _ _ _ _ 242 _ _ _ _ _
    refine z_iload2 dX1_gather_242 ?_
    refine z_aload0 dX1_gather_243 ?_
    refine zd_getI hW fl_RX1_27 hi (by decide) dX1_gather_244 ?_
    refine z_icmp_ne (tgt := 258) dX1_gather_247 (by decide) (fun c247 => ?_) (fun c247 => ?_)
    · show zS _ _ _ _ _ _ _ 258 _ _ _ _ _
      refine z_iconst (v := 1) dX1_gather_258 (by decide) ?_
      refine z_goto (tgt := 263) dX1_gather_259 (by decide) ?_
      show zS _ _ _ _ _ _ _ 263 _ _ _ _ _
      refine z_istore4 dX1_gather_263 ?_
      refine z_aload0 dX1_gather_265 ?_
      refine z_iload2 dX1_gather_266 ?_
      refine zd_putI hW fl_RX1_27 hi (by decide) dX1_gather_267 ?_
      refine z_aload0 dX1_gather_270 ?_
      refine z_iload3 dX1_gather_271 ?_
      refine zd_putI hW fl_RX1_30 hi (by decide) dX1_gather_272 ?_
      refine z_iload4 dX1_gather_275 ?_
      refine z_iret dX1_gather_277 rfl ?_
      rw [show ggatA g R f e = _ from ggatA_1 (by rw [el]; exact c247)]
      show zCy _ _ _ _ _ _ _ (zup (zup f e 8 (gnl g R f e)) e 9 (gnt g R f e)) _ _ _ _ _ _ _ _
      rw [el, et]
      exact ⟨rfl, rfl, rfl, by omega, by omega, hw, zLe.rf, hW⟩
    · show zS _ _ _ _ _ _ _ 250 _ _ _ _ _
      refine z_iload3 dX1_gather_250 ?_
      refine z_aload0 dX1_gather_251 ?_
      refine zd_getI hW fl_RX1_30 hi (by decide) dX1_gather_252 ?_
      refine z_icmp_eq (tgt := 262) dX1_gather_255 (by decide) (fun c255 => ?_) (fun c255 => ?_)
      · show zS _ _ _ _ _ _ _ 262 _ _ _ _ _
        refine z_iconst (v := 0) dX1_gather_262 (by decide) ?_
        refine z_istore4 dX1_gather_263 ?_
        refine z_aload0 dX1_gather_265 ?_
        refine z_iload2 dX1_gather_266 ?_
        refine zd_putI hW fl_RX1_27 hi (by decide) dX1_gather_267 ?_
        refine z_aload0 dX1_gather_270 ?_
        refine z_iload3 dX1_gather_271 ?_
        refine zd_putI hW fl_RX1_30 hi (by decide) dX1_gather_272 ?_
        refine z_iload4 dX1_gather_275 ?_
        refine z_iret dX1_gather_277 rfl ?_
        rw [show ggatA g R f e = _ from ggatA_0 (el.trans c247) (et.trans c255)]
        show zCy _ _ _ _ _ _ _ (zup (zup f e 8 (gnl g R f e)) e 9 (gnt g R f e)) _ _ _ _ _ _ _ _
        rw [el, et]
        exact ⟨rfl, rfl, rfl, by omega, by omega, hw, zLe.rf, hW⟩
      · show zS _ _ _ _ _ _ _ 258 _ _ _ _ _
        refine z_iconst (v := 1) dX1_gather_258 (by decide) ?_
        refine z_goto (tgt := 263) dX1_gather_259 (by decide) ?_
        show zS _ _ _ _ _ _ _ 263 _ _ _ _ _
        refine z_istore4 dX1_gather_263 ?_
        refine z_aload0 dX1_gather_265 ?_
        refine z_iload2 dX1_gather_266 ?_
        refine zd_putI hW fl_RX1_27 hi (by decide) dX1_gather_267 ?_
        refine z_aload0 dX1_gather_270 ?_
        refine z_iload3 dX1_gather_271 ?_
        refine zd_putI hW fl_RX1_30 hi (by decide) dX1_gather_272 ?_
        refine z_iload4 dX1_gather_275 ?_
        refine z_iret dX1_gather_277 rfl ?_
        rw [show ggatA g R f e = _ from ggatA_2 (el.trans c247) (by rw [et]; exact c255)]
        show zCy _ _ _ _ _ _ _ (zup (zup f e 8 (gnl g R f e)) e 9 (gnt g R f e)) _ _ _ _ _ _ _ _
        rw [el, et]
        exact ⟨rfl, rfl, rfl, by omega, by omega, hw, zLe.rf, hW⟩
  show zS _ _ _ _ _ _ _ 242 _ _ _ _ _
  have el := gnl_d (g := g) (R := R) (f := f) (e := e) nc52_0 nc52_1 nc52_2 nc52_3 nc52_4 nc52_5
  have et := gnt_d (g := g) (R := R) (f := f) (e := e) nc52_0 nc52_1 nc52_2 nc52_3 nc52_4 nc52_5
  refine z_iload2 dX1_gather_242 ?_
  refine z_aload0 dX1_gather_243 ?_
  refine zd_getI hW fl_RX1_27 hi (by decide) dX1_gather_244 ?_
  refine z_icmp_ne (tgt := 258) dX1_gather_247 (by decide) (fun c247 => ?_) (fun c247 => ?_)
  · show zS _ _ _ _ _ _ _ 258 _ _ _ _ _
    refine z_iconst (v := 1) dX1_gather_258 (by decide) ?_
    refine z_goto (tgt := 263) dX1_gather_259 (by decide) ?_
    show zS _ _ _ _ _ _ _ 263 _ _ _ _ _
    refine z_istore4 dX1_gather_263 ?_
    refine z_aload0 dX1_gather_265 ?_
    refine z_iload2 dX1_gather_266 ?_
    refine zd_putI hW fl_RX1_27 hi (by decide) dX1_gather_267 ?_
    refine z_aload0 dX1_gather_270 ?_
    refine z_iload3 dX1_gather_271 ?_
    refine zd_putI hW fl_RX1_30 hi (by decide) dX1_gather_272 ?_
    refine z_iload4 dX1_gather_275 ?_
    refine z_iret dX1_gather_277 rfl ?_
    rw [show ggatA g R f e = _ from ggatA_1 (by rw [el]; exact c247)]
    show zCy _ _ _ _ _ _ _ (zup (zup f e 8 (gnl g R f e)) e 9 (gnt g R f e)) _ _ _ _ _ _ _ _
    rw [el, et]
    exact ⟨rfl, rfl, rfl, by omega, by omega, hw, zLe.rf, hW⟩
  · show zS _ _ _ _ _ _ _ 250 _ _ _ _ _
    refine z_iload3 dX1_gather_250 ?_
    refine z_aload0 dX1_gather_251 ?_
    refine zd_getI hW fl_RX1_30 hi (by decide) dX1_gather_252 ?_
    refine z_icmp_eq (tgt := 262) dX1_gather_255 (by decide) (fun c255 => ?_) (fun c255 => ?_)
    · show zS _ _ _ _ _ _ _ 262 _ _ _ _ _
      refine z_iconst (v := 0) dX1_gather_262 (by decide) ?_
      refine z_istore4 dX1_gather_263 ?_
      refine z_aload0 dX1_gather_265 ?_
      refine z_iload2 dX1_gather_266 ?_
      refine zd_putI hW fl_RX1_27 hi (by decide) dX1_gather_267 ?_
      refine z_aload0 dX1_gather_270 ?_
      refine z_iload3 dX1_gather_271 ?_
      refine zd_putI hW fl_RX1_30 hi (by decide) dX1_gather_272 ?_
      refine z_iload4 dX1_gather_275 ?_
      refine z_iret dX1_gather_277 rfl ?_
      rw [show ggatA g R f e = _ from ggatA_0 (el.trans c247) (et.trans c255)]
      show zCy _ _ _ _ _ _ _ (zup (zup f e 8 (gnl g R f e)) e 9 (gnt g R f e)) _ _ _ _ _ _ _ _
      rw [el, et]
      exact ⟨rfl, rfl, rfl, by omega, by omega, hw, zLe.rf, hW⟩
    · show zS _ _ _ _ _ _ _ 258 _ _ _ _ _
      refine z_iconst (v := 1) dX1_gather_258 (by decide) ?_
      refine z_goto (tgt := 263) dX1_gather_259 (by decide) ?_
      show zS _ _ _ _ _ _ _ 263 _ _ _ _ _
      refine z_istore4 dX1_gather_263 ?_
      refine z_aload0 dX1_gather_265 ?_
      refine z_iload2 dX1_gather_266 ?_
      refine zd_putI hW fl_RX1_27 hi (by decide) dX1_gather_267 ?_
      refine z_aload0 dX1_gather_270 ?_
      refine z_iload3 dX1_gather_271 ?_
      refine zd_putI hW fl_RX1_30 hi (by decide) dX1_gather_272 ?_
      refine z_iload4 dX1_gather_275 ?_
      refine z_iret dX1_gather_277 rfl ?_
      rw [show ggatA g R f e = _ from ggatA_2 (el.trans c247) (by rw [et]; exact c255)]
      show zCy _ _ _ _ _ _ _ (zup (zup f e 8 (gnl g R f e)) e 9 (gnt g R f e)) _ _ _ _ _ _ _ _
      rw [el, et]
      exact ⟨rfl, rfl, rfl, by omega, by omega, hw, zLe.rf, hW⟩
/-- a body's expressions: array a, n of them -/
def BA (b0 : Nat) (g : zG) (c a n : Nat) : Prop := zIn b0 g a 14 ∧ g.2.2.1 a = n ∧ n ≤ 120 ∧ ¬ (c ≤ a ∧ a < c + 27) ∧ ∀ k, k < n → g.2.2.2 a k = some (pA g a k) ∧ eOK g c (pA g a k)
/-- a round over a body: expressions below k, the last one first -/
def grd (g : zG) (R : zRf) (a : Nat) : Nat → zI × Int32 → zI × Int32
  | 0, S => S
  | k + 1, S => grd g R a k (ggatF g R S.1 (pA g a k), if ggatA g R S.1 (pA g a k) = 0 then S.2 else 1)
/-- a body's sets are emptied: j expressions from k on -/
def gfg (g : zG) (a : Nat) : Nat → Nat → zI → zI
  | 0, _, f => f
  | j + 1, k, f => gfg g a j (k + 1) (zup (zup f (pA g a k) 8 0) (pA g a k) 9 0)
set_option maxRecDepth 20000 in
theorem Bl_X0_forgetLeaves {l : Launch} {d : Nat} {D : zD} {b0 : Nat} {g : zG} {C : zI} {R : zRf} {c : Nat} (hW : CW b0 g c) (hF : CF c R) (hw : zOK b0 zNo (gv c g R)) (a n : Nat) (hA : BA b0 g c a n) (y0 : Value) (f1 : zI) : ∀ (j k : Nat) (f : zI) (cs ns : Nat) (y4 : Option Value), k + j = n → gfg g a j k f = f1 → zS l d D b0 mX0_forgetLeaves cs ns 10 [some y0, some (.ref a), some (.int (nI n)), some (.int (nI k)), y4] [] (gv c g R) (cv c f C) (zq D b0 (zCy b0 zNo c g none g R f1 C cs ns)) := by
  intro j
  have hn := hA.2.2.1
  induction j with
  | zero =>
    intro k f cs ns y4 hk hq
    obtain rfl : k = n := hk
    subst hq
    show zS _ _ _ _ _ _ _ 10 _ _ _ _ _
    refine z_iload3 dX0_forgetLeaves_10 ?_
    refine z_iload2 dX0_forgetLeaves_11 ?_
    refine z_icmp_ge (tgt := 38) dX0_forgetLeaves_12 (by decide) (fun c12 => ?_) (fun c12 => ?_)
    · show zS _ _ _ _ _ _ _ 38 _ _ _ _ _
      refine z_ret dX0_forgetLeaves_38 rfl ?_
      exact ⟨rfl, rfl, rfl, by omega, by omega, hw, zLe.rf, hW⟩
    · exact absurd c12 (nI_nlt (Nat.le_refl _) (by omega))
  | succ j ih =>
    intro k f cs ns y4 hk hq
    have hAk := hA.2.2.2.2 k (by omega)
    show zS _ _ _ _ _ _ _ 10 _ _ _ _ _
    refine z_iload3 dX0_forgetLeaves_10 ?_
    refine z_iload2 dX0_forgetLeaves_11 ?_
    refine z_icmp_ge (tgt := 38) dX0_forgetLeaves_12 (by decide) (fun c12 => ?_) (fun c12 => ?_)
    · exact absurd (nI_lt (by omega) (by omega)) c12
    · show zS _ _ _ _ _ _ _ 15 _ _ _ _ _
      refine z_aload1 dX0_forgetLeaves_15 ?_
      refine z_iload3 dX0_forgetLeaves_16 ?_
      refine zd_alds (t' := 1) hw hA.2.2.2.1 hA.1 (by decide) hA.2.1 (rfl : nI k = nI k) (by omega) (by first | decide | omega) (fun _ => rfl) (by decide) hAk.1 dX0_forgetLeaves_17 (fun i1 => ?_)
      refine z_astore4 dX0_forgetLeaves_18 ?_
      refine z_aload4 dX0_forgetLeaves_20 ?_
      refine z_iconst (v := 0) dX0_forgetLeaves_22 (by decide) ?_
      refine zd_putI hW fl_RX0_21 i1 (by decide) dX0_forgetLeaves_23 ?_
      refine z_aload4 dX0_forgetLeaves_26 ?_
      refine z_iconst (v := 0) dX0_forgetLeaves_28 (by decide) ?_
      refine zd_putI hW fl_RX0_27 i1 (by decide) dX0_forgetLeaves_29 ?_
      refine z_iinc3 (y := 1) dX0_forgetLeaves_32 (by decide) ?_
      refine z_goto (tgt := 10) dX0_forgetLeaves_35 (by decide) ?_
      rw [nI_1]
      exact ih (k + 1) _ _ _ _ (by omega) hq
set_option maxRecDepth 20000 in
set_option maxHeartbeats 400000 in
theorem B_X0_forgetLeaves {l : Launch} {d : Nat} {D : zD} {b0 : Nat} {g : zG} {f C : zI} {R : zRf} {c : Nat} (hW : CW b0 g c) (hF : CF c R) (hw : zOK b0 zNo (gv c g R)) (b a n : Nat) (hb : zIn b0 g b 0) (hba : g.2.2.2 b 1 = some a) (hA : BA b0 g c a n) : zM l d D b0 mX0_forgetLeaves [.ref b] (gv c g R) (cv c f C) (zCy b0 zNo c g none g R (gfg g a n 0 f) C 0 0) := by
  have hn := hA.2.2.1
  refine zM.start zmd_X0_forgetLeaves (Nat.le_of_ble_eq_true rfl) ⟨rfl, trivial⟩ [some (.ref b), none, none, none, none] rfl ?_
  refine z_aload0 dX0_forgetLeaves_0 ?_
  refine zd_getS hw hW fl_RX0_17 hb (by decide) (by decide) hba dX0_forgetLeaves_1 (fun i1 => ?_)
  refine z_astore1 dX0_forgetLeaves_4 ?_
  refine z_aload1 dX0_forgetLeaves_5 ?_
  refine z_alenN i1 (by decide) hA.2.1 dX0_forgetLeaves_6 ?_
  refine z_istore2 dX0_forgetLeaves_7 ?_
  refine z_iconst (v := 0) dX0_forgetLeaves_8 (by decide) ?_
  refine z_istore3 dX0_forgetLeaves_9 ?_
  exact Bl_X0_forgetLeaves hW hF hw a n hA _ _ n 0 f 0 0 none (by omega) rfl
set_option maxRecDepth 20000 in
theorem Bl_X0_gatherRound {l : Launch} {d : Nat} {D : zD} {b0 : Nat} {g : zG} {C : zI} {R : zRf} {c : Nat} (hW : CW b0 g c) (hF : CF c R) (hw : zOK b0 zNo (gv c g R)) (b a n : Nat) (hb : zIn b0 g b 0) (hba : g.2.2.2 b 1 = some a) (hA : BA b0 g c a n) (hd : 4 ≤ d) (q1 : zI × Int32) (c1 c2 : Nat) : ∀ (k : Nat) (f : zI) (x : Int32) (cs ns : Nat), k ≤ n → grd g R a k (f, x) = q1 → cs ≤ c1 → ns ≤ c2 → (q1.2 = 0 ∨ q1.2 = 1) → zS l d D b0 mX0_gatherRound cs ns 10 [some (.ref b), some (.ref (c + 14)), some (.int x), some (.int (nI k - 1))] [] (gv c g R) (cv c f C) (zq D b0 (zCy b0 zNo c g (some (.int q1.2)) g R q1.1 C c1 c2)) := by
  intro k
  have hn := hA.2.2.1
  induction k with
  | zero =>
    intro f x cs ns hk hq hcs hns h01
    subst hq
    show zS _ _ _ _ _ _ _ 10 _ _ _ _ _
    refine z_iload3 dX0_gatherRound_10 ?_
    refine z_if_lt (tgt := 35) dX0_gatherRound_11 (by decide) (fun c11 => ?_) (fun c11 => ?_)
    · show zS _ _ _ _ _ _ _ 35 _ _ _ _ _
      refine z_iload2 dX0_gatherRound_35 ?_
      refine z_iret dX0_gatherRound_36 rfl ?_ (by rcases h01 with q | q <;> (have q : x = _ := q; rw [q]; rfl))
      exact ⟨rfl, rfl, rfl, by omega, by omega, hw, zLe.rf, hW⟩
    · exact absurd (by decide) c11
  | succ k ih =>
    intro f x cs ns hk hq hcs hns h01
    have hAk := hA.2.2.2.2 k (by omega)
    rw [show nI (k + 1) - 1 = nI k from nI_pred k]
    show zS _ _ _ _ _ _ _ 10 _ _ _ _ _
    refine z_iload3 dX0_gatherRound_10 ?_
    refine z_if_lt (tgt := 35) dX0_gatherRound_11 (by decide) (fun c11 => ?_) (fun c11 => ?_)
    · exact absurd c11 (nI_pos (by omega))
    · show zS _ _ _ _ _ _ _ 14 _ _ _ _ _
      refine z_aload0 dX0_gatherRound_14 ?_
      refine zd_getS hw hW fl_RX0_17 hb (by decide) (by decide) hba dX0_gatherRound_15 (fun i1 => ?_)
      refine z_iload3 dX0_gatherRound_18 ?_
      refine zd_alds (t' := 1) hw hA.2.2.2.1 i1 (by decide) hA.2.1 (rfl : nI k = nI k) (by omega) (by first | decide | omega) (fun _ => rfl) (by decide) hAk.1 dX0_gatherRound_19 (fun i2 => ?_)
      refine z_aload1 dX0_gatherRound_20 ?_
      refine z_callV zmd_X1_gather rfl (by decide) zl_RX0_30 zin_X1_gather zsel_X1_gather (B_X1_gather (d := d - 1) hW hF hw _ i2 hAk.2 (by omega)) i2 rfl rfl (by omega) rfl dX0_gatherRound_21 (fun r3 g3 f3 mc3 ms3 q3 => ?_)
      obtain ⟨rfl, rfl, rfl, hc3, hs3, w3, k3, b3⟩ := q3
      refine z_if_eq (tgt := 29) dX0_gatherRound_24 (by decide) (fun c24 => ?_) (fun c24 => ?_)
      · show zS _ _ _ _ _ _ _ 29 _ _ _ _ _
        refine z_iinc3 (y := -1) dX0_gatherRound_29 (by decide) ?_
        refine z_goto (tgt := 10) dX0_gatherRound_32 (by decide) ?_
        rw [show nI k + -1 = nI k - 1 from (Int32.sub_eq_add_neg (a := nI k) (b := 1)).symm]
        exact ih _ _ _ _ (by omega) ((congrArg (fun z => grd g R a k (ggatF g R f (pA g a k), z)) (if_pos c24)).symm.trans hq) (by omega) (by omega) h01
      · show zS _ _ _ _ _ _ _ 27 _ _ _ _ _
        refine z_iconst (v := 1) dX0_gatherRound_27 (by decide) ?_
        refine z_istore2 dX0_gatherRound_28 ?_
        refine z_iinc3 (y := -1) dX0_gatherRound_29 (by decide) ?_
        refine z_goto (tgt := 10) dX0_gatherRound_32 (by decide) ?_
        rw [show nI k + -1 = nI k - 1 from (Int32.sub_eq_add_neg (a := nI k) (b := 1)).symm]
        exact ih _ _ _ _ (by omega) ((congrArg (fun z => grd g R a k (ggatF g R f (pA g a k), z)) (if_neg c24)).symm.trans hq) (by omega) (by omega) h01
theorem grd_01 {g : zG} {R : zRf} {a : Nat} : ∀ (k : Nat) (S : zI × Int32), S.2 = 0 ∨ S.2 = 1 → (grd g R a k S).2 = 0 ∨ (grd g R a k S).2 = 1 := by
  intro k
  induction k with
  | zero => intro S h; exact h
  | succ k ih =>
    intro S h
    refine ih _ ?_
    show (if _ then S.2 else 1) = 0 ∨ (if _ then S.2 else 1) = 1
    split
    · exact h
    · exact Or.inr rfl
set_option maxRecDepth 20000 in
set_option maxHeartbeats 400000 in
theorem B_X0_gatherRound {l : Launch} {d : Nat} {D : zD} {b0 : Nat} {g : zG} {f C : zI} {R : zRf} {c : Nat} (hW : CW b0 g c) (hF : CF c R) (hw : zOK b0 zNo (gv c g R)) (b a n : Nat) (hb : zIn b0 g b 0) (hba : g.2.2.2 b 1 = some a) (hA : BA b0 g c a n) (hd : 4 ≤ d) : zM l d D b0 mX0_gatherRound [.ref b, .ref (c + 14)] (gv c g R) (cv c f C) (zCy b0 zNo c g (some (.int (grd g R a n (f, 0)).2)) g R (grd g R a n (f, 0)).1 C 0 0) := by
  have hn := hA.2.2.1
  refine zM.start zmd_X0_gatherRound (Nat.le_of_ble_eq_true rfl) ⟨rfl, rfl, trivial⟩ [some (.ref b), some (.ref (c + 14)), none, none] rfl ?_
  refine z_iconst (v := 0) dX0_gatherRound_0 (by decide) ?_
  refine z_istore2 dX0_gatherRound_1 ?_
  refine z_aload0 dX0_gatherRound_2 ?_
  refine zd_getS hw hW fl_RX0_17 hb (by decide) (by decide) hba dX0_gatherRound_3 (fun i1 => ?_)
  refine z_alenN i1 (by decide) hA.2.1 dX0_gatherRound_6 ?_
  refine z_iconst (v := 1) dX0_gatherRound_7 (by decide) ?_
  refine z_isub dX0_gatherRound_8 ?_
  refine z_istore3 dX0_gatherRound_9 ?_
  exact Bl_X0_gatherRound hW hF hw b a n hb hba hA hd _ 0 0 n f 0 0 0 (Nat.le_refl _) rfl (Nat.le_refl _) (Nat.le_refl _) (grd_01 n _ (Or.inl rfl))
/-- what the bodies of a run are, for the walks: array and length of each -/
def BAo (b0 : Nat) (g : zG) (c : Nat) (r : Option Nat) : Prop := ∀ b, r = some b → g.2.2.2 b 1 = some (pA g b 1) ∧ BA b0 g c (pA g b 1) (g.2.2.1 (pA g b 1))
def gfo (g : zG) (r : Option Nat) (f : zI) : zI := match r with
  | none => f
  | some b => gfg g (pA g b 1) (g.2.2.1 (pA g b 1)) 0 f
def gro (g : zG) (R : zRf) (r : Option Nat) (f : zI) : zI × Int32 := match r with
  | none => (f, 0)
  | some b => grd g R (pA g b 1) (g.2.2.1 (pA g b 1)) (f, 0)
theorem gro_01 {g : zG} {R : zRf} {r : Option Nat} {f : zI} : (gro g R r f).2 = 0 ∨ (gro g R r f).2 = 1 := by
  cases r with
  | none => exact Or.inl rfl
  | some b => exact grd_01 _ _ (Or.inl rfl)
def gfs (g : zG) (R : zRf) : Nat → Nat → zI → zI
  | 0, _, f => f
  | j + 1, k, f => gfs g R j (k + 1) (gfo g (R 18 k) f)
def grs (g : zG) (R : zRf) : Nat → Nat → zI × Int32 → zI × Int32
  | 0, _, S => S
  | j + 1, k, S => grs g R j (k + 1) ((gro g R (R 18 k) S.1).1, if (gro g R (R 18 k) S.1).2 = 0 then S.2 else 1)
/-- a round over all -/
def gall1 (g : zG) (R : zRf) (f : zI) : zI × Int32 := grs g R 4 0 (gro g R (R 17 0) f)
def gfix (g : zG) (R : zRf) : Nat → zI → zI
  | 0, f => f
  | j + 1, f => if (gall1 g R f).2 = 0 then (gall1 g R f).1 else gfix g R j (gall1 g R f).1
/-- the rounds come to an end -/
def gfixV (g : zG) (R : zRf) : Nat → zI → Prop
  | 0, _ => False
  | j + 1, f => (gall1 g R f).2 = 0 ∨ gfixV g R j (gall1 g R f).1
def gclear (g : zG) (R : zRf) (f : zI) : zI := gfs g R 4 0 (gfo g (R 17 0) f)
set_option maxRecDepth 20000 in
theorem Bl_X8_gl1 {l : Launch} {d : Nat} {D : zD} {b0 : Nat} {g : zG} {C : zI} {R : zRf} {c : Nat} (hW : CW b0 g c) (hF : CF c R) (hw : zOK b0 zNo (gv c g R)) (hB : ∀ k, k < 4 → BAo b0 g c (R 18 k)) (hd : 1 ≤ d) (Q : Nat → Nat → zKT → Prop) (f1 : zI) (y2 y3 : Option Value) : ∀ (j k : Nat) (f : zI) (cs ns : Nat), k + j = 4 → gfs g R j k f = f1 → (∀ (cs' ns' : Nat), cs' ≤ cs → ns' ≤ ns → zS l d D b0 mX8_gatherLeaves cs' ns' 45 [some (.ref (c + 13)), some (.int (nI 4)), y2, y3] [] (gv c g R) (cv c f1 C) Q) → zS l d D b0 mX8_gatherLeaves cs ns 16 [some (.ref (c + 13)), some (.int (nI k)), y2, y3] [] (gv c g R) (cv c f C) Q := by
  intro j
  induction j with
  | zero =>
    intro k f cs ns hk hq kk
    obtain rfl : k = 4 := by omega
    subst hq
    show zS _ _ _ _ _ _ _ 16 _ _ _ _ _
    refine z_iload1 dX8_gatherLeaves_16 ?_
    refine z_iconst (v := 4) dX8_gatherLeaves_17 (by decide) ?_
    refine z_icmp_ge (tgt := 45) dX8_gatherLeaves_18 (by decide) (fun c18 => ?_) (fun c18 => ?_)
    · exact kk _ _ (Nat.le_refl _) (Nat.le_refl _)
    · exact absurd c18 (by decide)
  | succ j ih =>
    intro k f cs ns hk hq kk
    show zS _ _ _ _ _ _ _ 16 _ _ _ _ _
    refine z_iload1 dX8_gatherLeaves_16 ?_
    refine z_iconst (v := 4) dX8_gatherLeaves_17 (by decide) ?_
    refine z_icmp_ge (tgt := 45) dX8_gatherLeaves_18 (by decide) (fun c18 => ?_) (fun c18 => ?_)
    · exact absurd (nI_lt (b := 4) (by omega) (by decide)) c18
    · show zS _ _ _ _ _ _ _ 21 _ _ _ _ _
      refine z_aload0 dX8_gatherLeaves_21 ?_
      refine zc_getF (j := 17) hW fl_RX8_11 rfl (by decide) (hF _ (List.mem_of_getElem? (i := 18) rfl)) dX8_gatherLeaves_22 ?_
      refine z_iload1 dX8_gatherLeaves_25 ?_
      refine zc_ald (j := 18) (t' := 0) hw hW rfl (by decide) (by decide) (rfl : nI k = nI k) (by omega) (fun _ => rfl) (by decide) dX8_gatherLeaves_26 (fun i1 => ?_)
      refine z_ifnull (tgt := 39) dX8_gatherLeaves_27 (by decide) (fun c27 => ?_) (fun a27 c27 => ?_)
      · show zS _ _ _ _ _ _ _ 39 _ _ _ _ _
        refine z_iinc1 (y := 1) dX8_gatherLeaves_39 (by decide) ?_
        refine z_goto (tgt := 16) dX8_gatherLeaves_42 (by decide) ?_
        rw [nI_1]
        exact ih (k + 1) _ _ _ (by omega) ((show gfs g R (j + 1) k f = gfs g R j (k + 1) _ from congrArg (gfs g R j (k + 1)) (by rw [c27]; rfl)).symm.trans hq) (fun cs1 ns1 h1 h2 => kk cs1 ns1 (by omega) (by omega))
      · show zS _ _ _ _ _ _ _ 30 _ _ _ _ _
        refine z_aload0 dX8_gatherLeaves_30 ?_
        refine zc_getF (j := 17) hW fl_RX8_11 rfl (by decide) (hF _ (List.mem_of_getElem? (i := 18) rfl)) dX8_gatherLeaves_31 ?_
        refine z_iload1 dX8_gatherLeaves_34 ?_
        refine zc_alds (j := 18) (t' := 0) hw hW rfl (by decide) (by decide) (rfl : nI k = nI k) (by omega) (fun _ => rfl) (by decide) c27 dX8_gatherLeaves_35 (fun i2 => ?_)
        refine z_callV zmd_X0_forgetLeaves rfl (by decide) zl_RX8_135 zin_X0_forgetLeaves zsel_X0_forgetLeaves (B_X0_forgetLeaves (d := d - 1) hW hF hw _ _ _ i2 (hB k (by omega) _ c27).1 (hB k (by omega) _ c27).2) i2 rfl rfl (by omega) rfl dX8_gatherLeaves_36 (fun r3 g3 f3 mc3 ms3 q3 => ?_)
        obtain ⟨rfl, rfl, rfl, hc3, hs3, w3, k3, b3⟩ := q3
        refine z_iinc1 (y := 1) dX8_gatherLeaves_39 (by decide) ?_
        refine z_goto (tgt := 16) dX8_gatherLeaves_42 (by decide) ?_
        rw [nI_1]
        exact ih (k + 1) _ _ _ (by omega) ((show gfs g R (j + 1) k f = gfs g R j (k + 1) _ from congrArg (gfs g R j (k + 1)) (by rw [c27]; rfl)).symm.trans hq) (fun cs1 ns1 h1 h2 => kk cs1 ns1 (by omega) (by omega))
set_option maxRecDepth 20000 in
theorem Bl_X8_gl3 {l : Launch} {d : Nat} {D : zD} {b0 : Nat} {g : zG} {C : zI} {R : zRf} {c : Nat} (hW : CW b0 g c) (hF : CF c R) (hw : zOK b0 zNo (gv c g R)) (hB : ∀ k, k < 4 → BAo b0 g c (R 18 k)) (hd : 5 ≤ d) (Q : Nat → Nat → zKT → Prop) (q1 : zI × Int32) (y2 : Value) : ∀ (j k : Nat) (f : zI) (x : Int32) (cs ns : Nat), k + j = 4 → grs g R j k (f, x) = q1 → (∀ (cs' ns' : Nat), cs' ≤ cs → ns' ≤ ns → zS l d D b0 mX8_gatherLeaves cs' ns' 126 [some (.ref (c + 13)), some (.int q1.2), some y2, some (.int (nI 4))] [] (gv c g R) (cv c q1.1 C) Q) → zS l d D b0 mX8_gatherLeaves cs ns 88 [some (.ref (c + 13)), some (.int x), some y2, some (.int (nI k))] [] (gv c g R) (cv c f C) Q := by
  intro j
  induction j with
  | zero =>
    intro k f x cs ns hk hq kk
    obtain rfl : k = 4 := by omega
    subst hq
    show zS _ _ _ _ _ _ _ 88 _ _ _ _ _
    refine z_iload3 dX8_gatherLeaves_88 ?_
    refine z_iconst (v := 4) dX8_gatherLeaves_89 (by decide) ?_
    refine z_icmp_ge (tgt := 126) dX8_gatherLeaves_90 (by decide) (fun c90 => ?_) (fun c90 => ?_)
    · exact kk _ _ (Nat.le_refl _) (Nat.le_refl _)
    · exact absurd c90 (by decide)
  | succ j ih =>
    intro k f x cs ns hk hq kk
    show zS _ _ _ _ _ _ _ 88 _ _ _ _ _
    refine z_iload3 dX8_gatherLeaves_88 ?_
    refine z_iconst (v := 4) dX8_gatherLeaves_89 (by decide) ?_
    refine z_icmp_ge (tgt := 126) dX8_gatherLeaves_90 (by decide) (fun c90 => ?_) (fun c90 => ?_)
    · exact absurd (nI_lt (b := 4) (by omega) (by decide)) c90
    · show zS _ _ _ _ _ _ _ 93 _ _ _ _ _
      refine z_aload0 dX8_gatherLeaves_93 ?_
      refine zc_getF (j := 17) hW fl_RX8_11 rfl (by decide) (hF _ (List.mem_of_getElem? (i := 18) rfl)) dX8_gatherLeaves_94 ?_
      refine z_iload3 dX8_gatherLeaves_97 ?_
      refine zc_ald (j := 18) (t' := 0) hw hW rfl (by decide) (by decide) (rfl : nI k = nI k) (by omega) (fun _ => rfl) (by decide) dX8_gatherLeaves_98 (fun i1 => ?_)
      refine z_ifnull (tgt := 120) dX8_gatherLeaves_99 (by decide) (fun c99 => ?_) (fun a99 c99 => ?_)
      · show zS _ _ _ _ _ _ _ 120 _ _ _ _ _
        refine z_iinc3 (y := 1) dX8_gatherLeaves_120 (by decide) ?_
        refine z_goto (tgt := 88) dX8_gatherLeaves_123 (by decide) ?_
        rw [nI_1]
        exact ih (k + 1) _ _ _ _ (by omega) ((show grs g R (j + 1) k (f, x) = grs g R j (k + 1) _ from congrArg (grs g R j (k + 1)) (by rw [c99]; rfl)).symm.trans hq) (fun cs1 ns1 h1 h2 => kk cs1 ns1 (by omega) (by omega))
      · show zS _ _ _ _ _ _ _ 102 _ _ _ _ _
        refine z_aload0 dX8_gatherLeaves_102 ?_
        refine zc_getF (j := 17) hW fl_RX8_11 rfl (by decide) (hF _ (List.mem_of_getElem? (i := 18) rfl)) dX8_gatherLeaves_103 ?_
        refine z_iload3 dX8_gatherLeaves_106 ?_
        refine zc_alds (j := 18) (t' := 0) hw hW rfl (by decide) (by decide) (rfl : nI k = nI k) (by omega) (fun _ => rfl) (by decide) c99 dX8_gatherLeaves_107 (fun i2 => ?_)
        refine z_aload0 dX8_gatherLeaves_108 ?_
        refine zc_getF (j := 17) hW fl_RX8_11 rfl (by decide) (hF _ (List.mem_of_getElem? (i := 18) rfl)) dX8_gatherLeaves_109 ?_
        refine z_callV zmd_X0_gatherRound rfl (by decide) zl_RX8_139 zin_X0_gatherRound zsel_X0_gatherRound (B_X0_gatherRound (d := d - 1) hW hF hw _ _ _ i2 (hB k (by omega) _ c99).1 (hB k (by omega) _ c99).2 (by omega)) i2 rfl rfl (by omega) rfl dX8_gatherLeaves_112 (fun r3 g3 f3 mc3 ms3 q3 => ?_)
        obtain ⟨rfl, rfl, rfl, hc3, hs3, w3, k3, b3⟩ := q3
        refine z_if_eq (tgt := 120) dX8_gatherLeaves_115 (by decide) (fun c115 => ?_) (fun c115 => ?_)
        · show zS _ _ _ _ _ _ _ 120 _ _ _ _ _
          refine z_iinc3 (y := 1) dX8_gatherLeaves_120 (by decide) ?_
          refine z_goto (tgt := 88) dX8_gatherLeaves_123 (by decide) ?_
          rw [nI_1]
          exact ih (k + 1) _ _ _ _ (by omega) ((show grs g R (j + 1) k (f, x) = grs g R j (k + 1) _ from congrArg (grs g R j (k + 1)) (by rw [c99]; show ((grd g R _ _ (f, 0)).1, if (grd g R _ _ (f, 0)).2 = 0 then x else 1) = _; rw [if_pos c115])).symm.trans hq) (fun cs1 ns1 h1 h2 => kk cs1 ns1 (by omega) (by omega))
        · show zS _ _ _ _ _ _ _ 118 _ _ _ _ _
          refine z_iconst (v := 1) dX8_gatherLeaves_118 (by decide) ?_
          refine z_istore1 dX8_gatherLeaves_119 ?_
          refine z_iinc3 (y := 1) dX8_gatherLeaves_120 (by decide) ?_
          refine z_goto (tgt := 88) dX8_gatherLeaves_123 (by decide) ?_
          rw [nI_1]
          exact ih (k + 1) _ _ _ _ (by omega) ((show grs g R (j + 1) k (f, x) = grs g R j (k + 1) _ from congrArg (grs g R j (k + 1)) (by rw [c99]; show ((grd g R _ _ (f, 0)).1, if (grd g R _ _ (f, 0)).2 = 0 then x else 1) = _; rw [if_neg c115])).symm.trans hq) (fun cs1 ns1 h1 h2 => kk cs1 ns1 (by omega) (by omega))
theorem grs_01 {g : zG} {R : zRf} : ∀ (j k : Nat) (S : zI × Int32), S.2 = 0 ∨ S.2 = 1 → (grs g R j k S).2 = 0 ∨ (grs g R j k S).2 = 1 := by
  intro j
  induction j with
  | zero => intro k S h; exact h
  | succ j ih =>
    intro k S h
    refine ih _ _ ?_
    show (if _ then S.2 else 1) = 0 ∨ (if _ then S.2 else 1) = 1
    split
    · exact h
    · exact Or.inr rfl
theorem gall1_01 (g : zG) (R : zRf) (f : zI) : (gall1 g R f).2 = 0 ∨ (gall1 g R f).2 = 1 := grs_01 4 0 _ gro_01
set_option maxRecDepth 20000 in
set_option maxHeartbeats 400000 in
theorem Bl_X8_gl2 {l : Launch} {d : Nat} {D : zD} {b0 : Nat} {g : zG} {C : zI} {R : zRf} {c : Nat} (hW : CW b0 g c) (hF : CF c R) (hw : zOK b0 zNo (gv c g R)) (hB : ∀ k, k < 4 → BAo b0 g c (R 18 k)) (hM : BAo b0 g c (R 17 0)) (hd : 5 ≤ d) (f1 : zI) (c1 c2 : Nat) : ∀ (j k : Nat) (f : zI) (cs ns : Nat) (y3 : Option Value), k + j ≤ 999999 → gfixV g R j f → gfix g R j f = f1 → cs ≤ c1 → ns ≤ c2 → zS l d D b0 mX8_gatherLeaves cs ns 49 [some (.ref (c + 13)), some (.int 1), some (.int (nI k)), y3] [] (gv c g R) (cv c f C) (zq D b0 (zCy b0 zNo c g none g R f1 C c1 c2)) := by
  intro j
  induction j with
  | zero => intro k f cs ns y3 hk hV; exact absurd hV (fun h => h)
  | succ j ih =>
    intro k f cs ns y3 hk hV hq hcs hns
    show zS _ _ _ _ _ _ _ 49 _ _ _ _ _
    refine z_iload2 dX8_gatherLeaves_49 ?_
    refine z_ldc dX8_gatherLeaves_50 zk_RX8_138 ?_
    refine z_icmp_ge (tgt := 132) dX8_gatherLeaves_52 (by decide) (fun c52 => ?_) (fun c52 => ?_)
    · exact absurd (nI_lt (b := 1000000) (by omega) (by decide)) c52
    · show zS _ _ _ _ _ _ _ 55 _ _ _ _ _
      refine z_iload1 dX8_gatherLeaves_55 ?_
      refine z_if_eq (tgt := 132) dX8_gatherLeaves_56 (by decide) (fun c56 => ?_) (fun c56 => ?_)
      · exact absurd c56 (by decide)
      · show zS _ _ _ _ _ _ _ 59 _ _ _ _ _
        refine z_aload0 dX8_gatherLeaves_59 ?_
        refine zc_getN (j := 17) hw hW fl_RX8_49 rfl (by decide) dX8_gatherLeaves_60 (fun i1 => ?_)
        refine z_ifnull (tgt := 84) dX8_gatherLeaves_63 (by decide) (fun c63 => ?_) (fun a63 c63 => ?_)
        · show zS _ _ _ _ _ _ _ 84 _ _ _ _ _
          refine z_iconst (v := 0) dX8_gatherLeaves_84 (by decide) ?_
          refine z_istore1 dX8_gatherLeaves_85 ?_
          refine z_iconst (v := 0) dX8_gatherLeaves_86 (by decide) ?_
          refine z_istore3 dX8_gatherLeaves_87 ?_
          refine Bl_X8_gl3 hW hF hw hB hd _ (gall1 g R f) _ 4 0 _ _ _ _ (by omega) (by rw [show gall1 g R f = grs g R 4 0 (gro g R (R 17 0) f) from rfl]; congr 1; rw [c63]; rfl) (fun cs1 ns1 h1 h2 => ?_)
          show zS _ _ _ _ _ _ _ 126 _ _ _ _ _
          refine z_iinc2 (y := 1) dX8_gatherLeaves_126 (by decide) ?_
          refine z_goto (tgt := 49) dX8_gatherLeaves_129 (by decide) ?_
          rw [nI_1]
          by_cases h0 : (gall1 g R f).2 = 0
          · have e1 : gfix g R (j + 1) f = (gall1 g R f).1 := if_pos h0
            rw [← hq, e1, h0]
            refine z_iload2 dX8_gatherLeaves_49 ?_
            refine z_ldc dX8_gatherLeaves_50 zk_RX8_138 ?_
            refine z_icmp_ge (tgt := 132) dX8_gatherLeaves_52 (by decide) (fun q => absurd (nI_lt (b := 1000000) (by omega) (by decide)) q) (fun q => ?_)
            show zS _ _ _ _ _ _ _ 55 _ _ _ _ _
            refine z_iload1 dX8_gatherLeaves_55 ?_
            refine z_if_eq (tgt := 132) dX8_gatherLeaves_56 (by decide) (fun q => ?_) (fun q => absurd rfl q)
            refine z_ret dX8_gatherLeaves_132 rfl ?_
            exact ⟨rfl, rfl, rfl, by omega, by omega, hw, zLe.rf, hW⟩
          · have e1 : gfix g R (j + 1) f = gfix g R j (gall1 g R f).1 := if_neg h0
            have h1x : (gall1 g R f).2 = 1 := (gall1_01 g R f).resolve_left h0
            rw [h1x]
            exact ih (k + 1) _ _ _ _ (by omega) (hV.resolve_left h0) (e1.symm.trans hq) (by omega) (by omega)
        · show zS _ _ _ _ _ _ _ 66 _ _ _ _ _
          refine z_aload0 dX8_gatherLeaves_66 ?_
          refine zc_getS (j := 17) hw hW fl_RX8_49 rfl (by decide) c63 dX8_gatherLeaves_67 (fun i2 => ?_)
          refine z_aload0 dX8_gatherLeaves_70 ?_
          refine zc_getF (j := 17) hW fl_RX8_11 rfl (by decide) (hF _ (List.mem_of_getElem? (i := 18) rfl)) dX8_gatherLeaves_71 ?_
          refine z_callV zmd_X0_gatherRound rfl (by decide) zl_RX8_139 zin_X0_gatherRound zsel_X0_gatherRound (B_X0_gatherRound (d := d - 1) hW hF hw _ _ _ i2 (hM _ c63).1 (hM _ c63).2 (by omega)) i2 rfl rfl (by omega) rfl dX8_gatherLeaves_74 (fun r3 g3 f3 mc3 ms3 q3 => ?_)
          obtain ⟨rfl, rfl, rfl, hc3, hs3, w3, k3, b3⟩ := q3
          refine z_if_eq (tgt := 84) dX8_gatherLeaves_77 (by decide) (fun c77 => ?_) (fun c77 => ?_)
          · show zS _ _ _ _ _ _ _ 84 _ _ _ _ _
            refine z_iconst (v := 0) dX8_gatherLeaves_84 (by decide) ?_
            refine z_istore1 dX8_gatherLeaves_85 ?_
            refine z_iconst (v := 0) dX8_gatherLeaves_86 (by decide) ?_
            refine z_istore3 dX8_gatherLeaves_87 ?_
            refine Bl_X8_gl3 hW hF hw hB hd _ (gall1 g R f) _ 4 0 _ _ _ _ (by omega) (by rw [show gall1 g R f = grs g R 4 0 (gro g R (R 17 0) f) from rfl]; congr 1; rw [c63]; exact Prod.ext rfl c77.symm) (fun cs1 ns1 h1 h2 => ?_)
            show zS _ _ _ _ _ _ _ 126 _ _ _ _ _
            refine z_iinc2 (y := 1) dX8_gatherLeaves_126 (by decide) ?_
            refine z_goto (tgt := 49) dX8_gatherLeaves_129 (by decide) ?_
            rw [nI_1]
            by_cases h0 : (gall1 g R f).2 = 0
            · have e1 : gfix g R (j + 1) f = (gall1 g R f).1 := if_pos h0
              rw [← hq, e1, h0]
              refine z_iload2 dX8_gatherLeaves_49 ?_
              refine z_ldc dX8_gatherLeaves_50 zk_RX8_138 ?_
              refine z_icmp_ge (tgt := 132) dX8_gatherLeaves_52 (by decide) (fun q => absurd (nI_lt (b := 1000000) (by omega) (by decide)) q) (fun q => ?_)
              show zS _ _ _ _ _ _ _ 55 _ _ _ _ _
              refine z_iload1 dX8_gatherLeaves_55 ?_
              refine z_if_eq (tgt := 132) dX8_gatherLeaves_56 (by decide) (fun q => ?_) (fun q => absurd rfl q)
              refine z_ret dX8_gatherLeaves_132 rfl ?_
              exact ⟨rfl, rfl, rfl, by omega, by omega, hw, zLe.rf, hW⟩
            · have e1 : gfix g R (j + 1) f = gfix g R j (gall1 g R f).1 := if_neg h0
              have h1x : (gall1 g R f).2 = 1 := (gall1_01 g R f).resolve_left h0
              rw [h1x]
              exact ih (k + 1) _ _ _ _ (by omega) (hV.resolve_left h0) (e1.symm.trans hq) (by omega) (by omega)
          · show zS _ _ _ _ _ _ _ 80 _ _ _ _ _
            refine z_iconst (v := 1) dX8_gatherLeaves_80 (by decide) ?_
            refine z_goto (tgt := 85) dX8_gatherLeaves_81 (by decide) ?_
            show zS _ _ _ _ _ _ _ 85 _ _ _ _ _
            refine z_istore1 dX8_gatherLeaves_85 ?_
            refine z_iconst (v := 0) dX8_gatherLeaves_86 (by decide) ?_
            refine z_istore3 dX8_gatherLeaves_87 ?_
            refine Bl_X8_gl3 hW hF hw hB hd _ (gall1 g R f) _ 4 0 _ _ _ _ (by omega) (by rw [show gall1 g R f = grs g R 4 0 (gro g R (R 17 0) f) from rfl]; congr 1; rw [c63]; exact Prod.ext rfl ((grd_01 _ _ (Or.inl rfl)).resolve_left c77).symm) (fun cs1 ns1 h1 h2 => ?_)
            show zS _ _ _ _ _ _ _ 126 _ _ _ _ _
            refine z_iinc2 (y := 1) dX8_gatherLeaves_126 (by decide) ?_
            refine z_goto (tgt := 49) dX8_gatherLeaves_129 (by decide) ?_
            rw [nI_1]
            by_cases h0 : (gall1 g R f).2 = 0
            · have e1 : gfix g R (j + 1) f = (gall1 g R f).1 := if_pos h0
              rw [← hq, e1, h0]
              refine z_iload2 dX8_gatherLeaves_49 ?_
              refine z_ldc dX8_gatherLeaves_50 zk_RX8_138 ?_
              refine z_icmp_ge (tgt := 132) dX8_gatherLeaves_52 (by decide) (fun q => absurd (nI_lt (b := 1000000) (by omega) (by decide)) q) (fun q => ?_)
              show zS _ _ _ _ _ _ _ 55 _ _ _ _ _
              refine z_iload1 dX8_gatherLeaves_55 ?_
              refine z_if_eq (tgt := 132) dX8_gatherLeaves_56 (by decide) (fun q => ?_) (fun q => absurd rfl q)
              refine z_ret dX8_gatherLeaves_132 rfl ?_
              exact ⟨rfl, rfl, rfl, by omega, by omega, hw, zLe.rf, hW⟩
            · have e1 : gfix g R (j + 1) f = gfix g R j (gall1 g R f).1 := if_neg h0
              have h1x : (gall1 g R f).2 = 1 := (gall1_01 g R f).resolve_left h0
              rw [h1x]
              exact ih (k + 1) _ _ _ _ (by omega) (hV.resolve_left h0) (e1.symm.trans hq) (by omega) (by omega)
set_option maxRecDepth 20000 in
set_option maxHeartbeats 400000 in
theorem B_X8_gatherLeaves {l : Launch} {d : Nat} {D : zD} {b0 : Nat} {g : zG} {f C : zI} {R : zRf} {c : Nat} (hW : CW b0 g c) (hF : CF c R) (hw : zOK b0 zNo (gv c g R)) (j : Nat) (hj : j ≤ 999999) (hB : ∀ k, k < 4 → BAo b0 g c (R 18 k)) (hM : BAo b0 g c (R 17 0)) (hV : gfixV g R j (gclear g R f)) (hd : 5 ≤ d) : zM l d D b0 mX8_gatherLeaves [.ref (c + 13)] (gv c g R) (cv c f C) (zCy b0 zNo c g none g R (gfix g R j (gclear g R f)) C 0 0) := by
  refine zM.start zmd_X8_gatherLeaves (Nat.le_of_ble_eq_true rfl) ⟨rfl, trivial⟩ [some (.ref (c + 13)), none, none, none] rfl ?_
  refine z_aload0 dX8_gatherLeaves_0 ?_
  refine zc_getN (j := 17) hw hW fl_RX8_49 rfl (by decide) dX8_gatherLeaves_1 (fun i1 => ?_)
  refine z_ifnull (tgt := 14) dX8_gatherLeaves_4 (by decide) (fun c4 => ?_) (fun a4 c4 => ?_)
  · show zS _ _ _ _ _ _ _ 14 _ _ _ _ _
    refine z_iconst (v := 0) dX8_gatherLeaves_14 (by decide) ?_
    refine z_istore1 dX8_gatherLeaves_15 ?_
    refine Bl_X8_gl1 hW hF hw hB (by omega) _ (gclear g R f) _ _ 4 0 _ _ _ (by omega) (by rw [show gclear g R f = gfs g R 4 0 (gfo g (R 17 0) f) from rfl]; congr 1; rw [c4]; rfl) (fun cs1 ns1 h1 h2 => ?_)
    show zS _ _ _ _ _ _ _ 45 _ _ _ _ _
    refine z_iconst (v := 1) dX8_gatherLeaves_45 (by decide) ?_
    refine z_istore1 dX8_gatherLeaves_46 ?_
    refine z_iconst (v := 0) dX8_gatherLeaves_47 (by decide) ?_
    refine z_istore2 dX8_gatherLeaves_48 ?_
    exact Bl_X8_gl2 hW hF hw hB hM hd _ 0 0 j 0 _ _ _ _ (by omega) hV rfl (by omega) (by omega)
  · show zS _ _ _ _ _ _ _ 7 _ _ _ _ _
    refine z_aload0 dX8_gatherLeaves_7 ?_
    refine zc_getS (j := 17) hw hW fl_RX8_49 rfl (by decide) c4 dX8_gatherLeaves_8 (fun i2 => ?_)
    refine z_callV zmd_X0_forgetLeaves rfl (by decide) zl_RX8_135 zin_X0_forgetLeaves zsel_X0_forgetLeaves (B_X0_forgetLeaves (d := d - 1) hW hF hw _ _ _ i2 (hM _ c4).1 (hM _ c4).2) i2 rfl rfl (by omega) rfl dX8_gatherLeaves_11 (fun r3 g3 f3 mc3 ms3 q3 => ?_)
    obtain ⟨rfl, rfl, rfl, hc3, hs3, w3, k3, b3⟩ := q3
    refine z_iconst (v := 0) dX8_gatherLeaves_14 (by decide) ?_
    refine z_istore1 dX8_gatherLeaves_15 ?_
    refine Bl_X8_gl1 hW hF hw hB (by omega) _ (gclear g R f) _ _ 4 0 _ _ _ (by omega) (by rw [show gclear g R f = gfs g R 4 0 (gfo g (R 17 0) f) from rfl]; congr 1; rw [c4]; rfl) (fun cs1 ns1 h1 h2 => ?_)
    show zS _ _ _ _ _ _ _ 45 _ _ _ _ _
    refine z_iconst (v := 1) dX8_gatherLeaves_45 (by decide) ?_
    refine z_istore1 dX8_gatherLeaves_46 ?_
    refine z_iconst (v := 0) dX8_gatherLeaves_47 (by decide) ?_
    refine z_istore2 dX8_gatherLeaves_48 ?_
    exact Bl_X8_gl2 hW hF hw hB hM hd _ 0 0 j 0 _ _ _ _ (by omega) hV rfl (by omega) (by omega)
