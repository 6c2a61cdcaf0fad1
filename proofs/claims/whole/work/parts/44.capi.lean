/-! The class's face, over the block. -/
theorem zd_putS {l : Launch} {d : Nat} {D : zD} {b0 : Nat} {mi : zMI} {cs ns pc : Nat} {L : List (Option Value)} {st : List Value} {g : zG} {f C : zI} {R : zRf} {c : Nat} {Q : Nat → Nat → zKT → Prop} {X : Nat → Prop} {idx ci k a t' v : Nat} {ty : FieldType} (hw : zOK b0 X (gv c g R)) (hW : CW b0 g c) (hf : zFl mi.1.cls idx ci k ty false t') (h9 : t' ≠ 99) (hty : (∃ n, ty = .object n) ∨ ∃ t, ty = .array t) (ha : zIn b0 g a ci) (ho : ∀ q ∈ bT, ci ≠ q.1) (hv : zIn b0 g v t') (hq : ∀ q ∈ zSh, ci = q.1 → k = q.2.1 → q.2.2 = none) (hd : decode mi.2.1 pc = .ok (.putfield idx, 3))
    (kk : zOK b0 X (gv c (zpR g a k (some v)) R) → zS l d D b0 mi cs ns (pc + 3) L st (gv c (zpR g a k (some v)) R) (cv c f C) Q) : zS l d D b0 mi cs ns pc L (.ref v :: .ref a :: st) (gv c g R) (cv c f C) Q := by
  refine zw_putS hw hf h9 hty ha.gv hv.gv hq hd (fun h => ?_)
  rw [gv_stD (hW.out ha ho)] at h ⊢
  exact kk h
def bwrite (C : zI) (x : Int32) : Int32 × zI := if x < 32 ∨ 126 < x then (-1, C) else if C 0 1 < 120 then (C 0 1 + 1, zup (zup C 1 (tn (C 0 1)) x) 0 1 (C 0 1 + 1)) else (-3, C)
theorem bwrite_b {C : zI} {x : Int32} (h : x < 32 ∨ 126 < x) : bwrite C x = (-1, C) := if_pos h
theorem bwrite_f {C : zI} {x : Int32} (h : ¬ (x < 32 ∨ 126 < x)) (h2 : ¬ C 0 1 < 120) : bwrite C x = (-3, C) := (if_neg h).trans (if_neg h2)
theorem bwrite_w {C : zI} {x : Int32} (h : ¬ (x < 32 ∨ 126 < x)) (h2 : C 0 1 < 120) : bwrite C x = (C 0 1 + 1, zup (zup C 1 (tn (C 0 1)) x) 0 1 (C 0 1 + 1)) := (if_neg h).trans (if_pos h2)
set_option maxRecDepth 20000 in
set_option maxHeartbeats 400000 in
theorem B_X11_write {l : Launch} {d : Nat} {D : zD} {b0 : Nat} {g : zG} {f C : zI} {R : zRf} {c : Nat} (hW : CW b0 g c) (hF : CF c R) (hw : zOK b0 zNo (gv c g R)) (x : Int32) (hl : iv 121 (C 0 1)) : zM l d D b0 mX11_write [.ref (c + 0), .int x] (gv c g R) (cv c f C) (zCy b0 zNo c g (some (.int (bwrite C x).1)) g R f (bwrite C x).2 0 0) := by
  refine zM.start zmd_X11_write (Nat.le_of_ble_eq_true rfl) ⟨rfl, rfl, trivial⟩ [some (.ref (c + 0)), some (.int x)] rfl ?_
  refine z_iload1 dX11_write_0 ?_
  refine z_bipush (v := 32) dX11_write_1 (by decide) ?_
  refine z_icmp_lt (tgt := 12) dX11_write_3 (by decide) (fun c3 => ?_) (fun c3 => ?_)
  · show zS _ _ _ _ _ _ _ 12 _ _ _ _ _
    rw [bwrite_b (Or.inl c3)]
    refine z_iconst (v := (-1)) dX11_write_12 (by decide) ?_
    refine z_iret dX11_write_13 rfl ?_
    exact ⟨rfl, rfl, rfl, by omega, by omega, hw, zLe.rf, hW⟩
  · show zS _ _ _ _ _ _ _ 6 _ _ _ _ _
    refine z_iload1 dX11_write_6 ?_
    refine z_bipush (v := 126) dX11_write_7 (by decide) ?_
    refine z_icmp_le (tgt := 14) dX11_write_9 (by decide) (fun c9 => ?_) (fun c9 => ?_)
    · show zS _ _ _ _ _ _ _ 14 _ _ _ _ _
      have hx : ¬ (x < 32 ∨ 126 < x) := fun q => q.elim c3 (by first | exact c9 | (intro q2; exact c9 q2))
      refine z_aload0 dX11_write_14 ?_
      refine zc_getI (j := 0) hW fl_RX11_13 rfl dX11_write_15 ?_
      refine z_bipush (v := 120) dX11_write_18 (by decide) ?_
      refine z_icmp_lt (tgt := 26) dX11_write_20 (by decide) (fun c20 => ?_) (fun c20 => ?_)
      · show zS _ _ _ _ _ _ _ 26 _ _ _ _ _
        rw [bwrite_w hx c20]
        have hl2 : tn (C 0 1) < 120 := by
          have q := c20
          rw [hl.2] at q
          exact (nI_ltI (b := 120) (by have := hl.1; omega) (by decide)).mp q
        refine z_aload0 dX11_write_26 ?_
        refine zc_getF (j := 0) hW fl_RX11_9 rfl (by decide) (hF _ (List.mem_of_getElem? (i := 0) rfl)) dX11_write_27 ?_
        refine z_aload0 dX11_write_30 ?_
        refine zc_getI (j := 0) hW fl_RX11_13 rfl dX11_write_31 ?_
        refine z_iload1 dX11_write_34 ?_
        refine zc_st (j := 1) hW rfl (by decide) hl.2 (by omega) dX11_write_35 ?_
        refine z_aload0 dX11_write_36 ?_
        refine z_dup dX11_write_37 ?_
        refine zc_getI (j := 0) hW fl_RX11_13 rfl dX11_write_38 ?_
        refine z_iconst (v := 1) dX11_write_41 (by decide) ?_
        refine z_iadd dX11_write_42 ?_
        show zS _ _ _ _ _ _ _ 43 _ _ _ _ _
        refine zc_putI (j := 0) hW fl_RX11_13 rfl dX11_write_43 ?_
        refine z_aload0 dX11_write_46 ?_
        refine zc_getI (j := 0) hW fl_RX11_13 rfl dX11_write_47 ?_
        refine z_iret dX11_write_50 rfl ?_
        exact ⟨rfl, rfl, rfl, by omega, by omega, hw, zLe.rf, hW⟩
      · show zS _ _ _ _ _ _ _ 23 _ _ _ _ _
        rw [bwrite_f hx c20]
        refine z_bipush (v := (-3)) dX11_write_23 (by decide) ?_
        refine z_iret dX11_write_25 rfl ?_
        exact ⟨rfl, rfl, rfl, by omega, by omega, hw, zLe.rf, hW⟩
    · show zS _ _ _ _ _ _ _ 12 _ _ _ _ _
      rw [bwrite_b (Or.inr (by first | exact c9 | exact Classical.not_not.mp c9))]
      refine z_iconst (v := (-1)) dX11_write_12 (by decide) ?_
      refine z_iret dX11_write_13 rfl ?_
      exact ⟨rfl, rfl, rfl, by omega, by omega, hw, zLe.rf, hW⟩
set_option maxRecDepth 20000 in
set_option maxHeartbeats 400000 in
theorem B_X11_wipe {l : Launch} {d : Nat} {D : zD} {b0 : Nat} {g : zG} {f C : zI} {R : zRf} {c : Nat} (hW : CW b0 g c) (hF : CF c R) (hw : zOK b0 zNo (gv c g R))  : zM l d D b0 mX11_wipe [.ref (c + 0)] (gv c g R) (cv c f C) (zCy b0 zNo c g (some (.int (C 0 1))) g R f (zup C 0 1 0) 0 0) := by
  refine zM.start zmd_X11_wipe (Nat.le_of_ble_eq_true rfl) ⟨rfl, trivial⟩ [some (.ref (c + 0)), none] rfl ?_
  refine z_aload0 dX11_wipe_0 ?_
  refine zc_getI (j := 0) hW fl_RX11_13 rfl dX11_wipe_1 ?_
  refine z_istore1 dX11_wipe_4 ?_
  refine z_aload0 dX11_wipe_5 ?_
  refine z_iconst (v := 0) dX11_wipe_6 (by decide) ?_
  refine zc_putI (j := 0) hW fl_RX11_13 rfl dX11_wipe_7 ?_
  refine z_iload1 dX11_wipe_10 ?_
  refine z_iret dX11_wipe_11 rfl ?_
  exact ⟨rfl, rfl, rfl, by omega, by omega, hw, zLe.rf, hW⟩
def bfault (g : zG) (R : zRf) (f C : zI) (len : Nat) (x : Int32) : bSt × Int32 := if x = 0 then bread g R f C len 0 else if x = 1 then bread g R f C len 1 else ((g, R, f, C), -1)
theorem bfault_0 {g : zG} {R : zRf} {f C : zI} {len : Nat} {x : Int32} (h : x = 0) : bfault g R f C len x = bread g R f C len 0 := if_pos h
theorem bfault_1 {g : zG} {R : zRf} {f C : zI} {len : Nat} {x : Int32} (h : x = 1) : bfault g R f C len x = bread g R f C len 1 := (if_neg (by rw [h]; decide)).trans (if_pos h)
theorem bfault_n {g : zG} {R : zRf} {f C : zI} {len : Nat} {x : Int32} (h : ¬ x = 0) (h1 : ¬ x = 1) : bfault g R f C len x = ((g, R, f, C), -1) := (if_neg h).trans (if_neg h1)
set_option maxRecDepth 20000 in
set_option maxHeartbeats 400000 in
theorem B_X11_fault {l : Launch} {d : Nat} {D : zD} {b0 : Nat} {g : zG} {f C : zI} {R : zRf} {c : Nat} (hW : CW b0 g c) (hF : CF c R) (hw : zOK b0 zNo (gv c g R)) (x : Int32) (len : Nat) (hln : C 0 1 = nI len) (hlen : len ≤ 120) (h6 : ∀ k, iv 7 (C 6 k)) (hE : EO b0 g c) (hd : 7 ≤ d) : zM l d D b0 mX11_fault [.ref (c + 0), .int x] (gv c g R) (cv c f C) (zCy b0 zNo c g (some (.int (bfault g R f C len x).2)) (bfault g R f C len x).1.1 (bfault g R f C len x).1.2.1 (bfault g R f C len x).1.2.2.1 (bfault g R f C len x).1.2.2.2 (3 * len) (24 * len)) := by
  refine zM.start zmd_X11_fault (Nat.le_of_ble_eq_true rfl) ⟨rfl, rfl, trivial⟩ [some (.ref (c + 0)), some (.int x)] rfl ?_
  refine z_iload1 dX11_fault_0 ?_
  refine z_if_eq (tgt := 11) dX11_fault_1 (by decide) (fun c1 => ?_) (fun c1 => ?_)
  · show zS _ _ _ _ _ _ _ 11 _ _ _ _ _
    refine z_aload0 dX11_fault_11 ?_
    refine zc_getF (j := 0) hW fl_RX11_20 rfl (by decide) (hF _ (List.mem_of_getElem? (i := 1) rfl)) dX11_fault_12 ?_
    refine z_aload0 dX11_fault_15 ?_
    refine zc_getF (j := 0) hW fl_RX11_9 rfl (by decide) (hF _ (List.mem_of_getElem? (i := 0) rfl)) dX11_fault_16 ?_
    refine z_aload0 dX11_fault_19 ?_
    refine zc_getI (j := 0) hW fl_RX11_13 rfl dX11_fault_20 ?_
    rw [hln]
    refine z_iload1 dX11_fault_23 ?_
    refine z_iconst (v := 1) dX11_fault_24 (by decide) ?_
    refine z_icmp_ne (tgt := 32) dX11_fault_25 (by decide) (fun c25 => ?_) (fun c25 => ?_)
    · show zS _ _ _ _ _ _ _ 32 _ _ _ _ _
      rw [bfault_0 c1]
      refine z_iconst (v := 0) dX11_fault_32 (by decide) ?_
      refine z_callV zmd_X6_read rfl (by decide) zl_RX11_51 zin_X6_read zsel_X6_read (B_X6_read (d := d - 1) hW hF hw len _ hlen h6 hE (by omega)) (hW.i 2 rfl) rfl rfl (by omega) rfl dX11_fault_33 (fun r1 g1 f1 mc1 ms1 q1 => ?_)
      obtain ⟨rfl, rfl, rfl, hc1, hs1, w1, k1, b1⟩ := q1
      refine z_iret dX11_fault_36 rfl ?_
      exact ⟨rfl, rfl, rfl, by omega, by omega, w1, k1, b1⟩
    · exact absurd (c1.symm.trans c25) (by decide)
  · show zS _ _ _ _ _ _ _ 4 _ _ _ _ _
    refine z_iload1 dX11_fault_4 ?_
    refine z_iconst (v := 1) dX11_fault_5 (by decide) ?_
    refine z_icmp_eq (tgt := 11) dX11_fault_6 (by decide) (fun c6 => ?_) (fun c6 => ?_)
    · show zS _ _ _ _ _ _ _ 11 _ _ _ _ _
      refine z_aload0 dX11_fault_11 ?_
      refine zc_getF (j := 0) hW fl_RX11_20 rfl (by decide) (hF _ (List.mem_of_getElem? (i := 1) rfl)) dX11_fault_12 ?_
      refine z_aload0 dX11_fault_15 ?_
      refine zc_getF (j := 0) hW fl_RX11_9 rfl (by decide) (hF _ (List.mem_of_getElem? (i := 0) rfl)) dX11_fault_16 ?_
      refine z_aload0 dX11_fault_19 ?_
      refine zc_getI (j := 0) hW fl_RX11_13 rfl dX11_fault_20 ?_
      rw [hln]
      refine z_iload1 dX11_fault_23 ?_
      refine z_iconst (v := 1) dX11_fault_24 (by decide) ?_
      refine z_icmp_ne (tgt := 32) dX11_fault_25 (by decide) (fun c25 => ?_) (fun c25 => ?_)
      · exact absurd c6 c25
      · show zS _ _ _ _ _ _ _ 28 _ _ _ _ _
        rw [bfault_1 c25]
        refine z_iconst (v := 1) dX11_fault_28 (by decide) ?_
        refine z_goto (tgt := 33) dX11_fault_29 (by decide) ?_
        show zS _ _ _ _ _ _ _ 33 _ _ _ _ _
        refine z_callV zmd_X6_read rfl (by decide) zl_RX11_51 zin_X6_read zsel_X6_read (B_X6_read (d := d - 1) hW hF hw len _ hlen h6 hE (by omega)) (hW.i 2 rfl) rfl rfl (by omega) rfl dX11_fault_33 (fun r2 g2 f2 mc2 ms2 q2 => ?_)
        obtain ⟨rfl, rfl, rfl, hc2, hs2, w2, k2, b2⟩ := q2
        refine z_iret dX11_fault_36 rfl ?_
        exact ⟨rfl, rfl, rfl, by omega, by omega, w2, k2, b2⟩
    · show zS _ _ _ _ _ _ _ 9 _ _ _ _ _
      rw [bfault_n c1 c6]
      refine z_iconst (v := (-1)) dX11_fault_9 (by decide) ?_
      refine z_iret dX11_fault_10 rfl ?_
      exact ⟨rfl, rfl, rfl, by omega, by omega, hw, zLe.rf, hW⟩
def bundef (R : zRf) (x : Int32) : Int32 × zRf := if ¬ x < 0 ∧ x < 4 then ((if R 18 (tn x) = none then 0 else 1), zup R 18 (tn x) none) else (-1, R)
theorem bundef_n {R : zRf} {x : Int32} (h : ¬ (¬ x < 0 ∧ x < 4)) : bundef R x = (-1, R) := if_neg h
theorem bundef_0 {R : zRf} {x : Int32} (h : ¬ x < 0 ∧ x < 4) (h2 : R 18 (tn x) = none) : bundef R x = (0, zup R 18 (tn x) none) := (if_pos h).trans (by rw [if_pos h2])
theorem bundef_1 {R : zRf} {x : Int32} (h : ¬ x < 0 ∧ x < 4) (h2 : ¬ R 18 (tn x) = none) : bundef R x = (1, zup R 18 (tn x) none) := (if_pos h).trans (by rw [if_neg h2])
set_option maxRecDepth 20000 in
set_option maxHeartbeats 400000 in
theorem B_X11_undefine {l : Launch} {d : Nat} {D : zD} {b0 : Nat} {g : zG} {f C : zI} {R : zRf} {c : Nat} (hW : CW b0 g c) (hF : CF c R) (hw : zOK b0 zNo (gv c g R)) (x : Int32) (hd : 1 ≤ d) : zM l d D b0 mX11_undefine [.ref (c + 0), .int x] (gv c g R) (cv c f C) (zCy b0 zNo c g (some (.int (bundef R x).1)) g (bundef R x).2 f C 0 0) := by
  refine zM.start zmd_X11_undefine (Nat.le_of_ble_eq_true rfl) ⟨rfl, rfl, trivial⟩ [some (.ref (c + 0)), some (.int x), none] rfl ?_
  refine z_iload1 dX11_undefine_0 ?_
  refine z_callSi zmd_X11_isProcedure zl_RX11_83 zst_X11_isProcedure (K_X11_isProcedure (d := d - 1) _) rfl rfl (by omega) rfl dX11_undefine_1 ?_
  refine z_if_ne (tgt := 9) dX11_undefine_4 (by decide) (fun c4 => ?_) (fun c4 => ?_)
  · show zS _ _ _ _ _ _ _ 9 _ _ _ _ _
    have hp := zB_t c4
    have hpi := iv4 hp
    have hp1 := hpi.1
    refine z_aload0 dX11_undefine_9 ?_
    refine zc_getF (j := 0) hW fl_RX11_43 rfl (by decide) (hF _ (List.mem_of_getElem? (i := 4) rfl)) dX11_undefine_10 ?_
    refine zc_getF (j := 17) hW fl_RX11_87 rfl (by decide) (hF _ (List.mem_of_getElem? (i := 18) rfl)) dX11_undefine_13 ?_
    refine z_iload1 dX11_undefine_16 ?_
    refine zc_ald (j := 18) (t' := 0) hw hW rfl (by decide) (by decide) (hpi.2 : _ = nI (tn x)) (by omega) (fun _ => rfl) (by decide) dX11_undefine_17 (fun i2 => ?_)
    refine z_ifnonnull (tgt := 25) dX11_undefine_18 (by decide) (fun a18 c18 => ?_) (fun c18 => ?_)
    · show zS _ _ _ _ _ _ _ 25 _ _ _ _ _
      rw [bundef_1 hp (by rw [c18]; intro q; cases q)]
      refine z_iconst (v := 1) dX11_undefine_25 (by decide) ?_
      refine z_istore2 dX11_undefine_26 ?_
      refine z_aload0 dX11_undefine_27 ?_
      refine zc_getF (j := 0) hW fl_RX11_43 rfl (by decide) (hF _ (List.mem_of_getElem? (i := 4) rfl)) dX11_undefine_28 ?_
      refine zc_getF (j := 17) hW fl_RX11_87 rfl (by decide) (hF _ (List.mem_of_getElem? (i := 18) rfl)) dX11_undefine_31 ?_
      refine z_iload1 dX11_undefine_34 ?_
      refine z_null dX11_undefine_35 ?_
      refine zc_astn (j := 18) (t' := 0) hw hW rfl (by decide) (by decide) (hpi.2 : _ = nI (tn x)) (by omega) (fun _ => rfl) dX11_undefine_36 (fun w3 => ?_)
      refine z_iload2 dX11_undefine_37 ?_
      refine z_iret dX11_undefine_38 rfl ?_
      exact ⟨rfl, rfl, rfl, by omega, by omega, w3, zLe.rf, hW⟩
    · show zS _ _ _ _ _ _ _ 21 _ _ _ _ _
      rw [bundef_0 hp c18]
      refine z_iconst (v := 0) dX11_undefine_21 (by decide) ?_
      refine z_goto (tgt := 26) dX11_undefine_22 (by decide) ?_
      show zS _ _ _ _ _ _ _ 26 _ _ _ _ _
      refine z_istore2 dX11_undefine_26 ?_
      refine z_aload0 dX11_undefine_27 ?_
      refine zc_getF (j := 0) hW fl_RX11_43 rfl (by decide) (hF _ (List.mem_of_getElem? (i := 4) rfl)) dX11_undefine_28 ?_
      refine zc_getF (j := 17) hW fl_RX11_87 rfl (by decide) (hF _ (List.mem_of_getElem? (i := 18) rfl)) dX11_undefine_31 ?_
      refine z_iload1 dX11_undefine_34 ?_
      refine z_null dX11_undefine_35 ?_
      refine zc_astn (j := 18) (t' := 0) hw hW rfl (by decide) (by decide) (hpi.2 : _ = nI (tn x)) (by omega) (fun _ => rfl) dX11_undefine_36 (fun w4 => ?_)
      refine z_iload2 dX11_undefine_37 ?_
      refine z_iret dX11_undefine_38 rfl ?_
      exact ⟨rfl, rfl, rfl, by omega, by omega, w4, zLe.rf, hW⟩
  · show zS _ _ _ _ _ _ _ 7 _ _ _ _ _
    rw [bundef_n (zB_f c4)]
    refine z_iconst (v := (-1)) dX11_undefine_7 (by decide) ?_
    refine z_iret dX11_undefine_8 rfl ?_
    exact ⟨rfl, rfl, rfl, by omega, by omega, hw, zLe.rf, hW⟩
def brest (g : zG) (R : zRf) (C : zI) : Int32 × zRf × zI := if C 17 2 = 0 then (-2, R, C) else (C 17 2, bbegin g R C)
theorem brest_0 {g : zG} {R : zRf} {C : zI} (h : C 17 2 = 0) : brest g R C = (-2, R, C) := if_pos h
theorem brest_1 {g : zG} {R : zRf} {C : zI} (h : ¬ C 17 2 = 0) : brest g R C = (C 17 2, bbegin g R C) := if_neg h
set_option maxRecDepth 20000 in
set_option maxHeartbeats 400000 in
theorem B_X11_restart {l : Launch} {d : Nat} {D : zD} {b0 : Nat} {g : zG} {f C : zI} {R : zRf} {c : Nat} (hW : CW b0 g c) (hF : CF c R) (hw : zOK b0 zNo (gv c g R))  (hd : 2 ≤ d) : zM l d D b0 mX11_restart [.ref (c + 0)] (gv c g R) (cv c f C) (zCy b0 zNo c g (some (.int (brest g R C).1)) g (brest g R C).2.1 f (brest g R C).2.2 0 0) := by
  refine zM.start zmd_X11_restart (Nat.le_of_ble_eq_true rfl) ⟨rfl, trivial⟩ [some (.ref (c + 0)), none] rfl ?_
  refine z_aload0 dX11_restart_0 ?_
  refine zc_getF (j := 0) hW fl_RX11_43 rfl (by decide) (hF _ (List.mem_of_getElem? (i := 4) rfl)) dX11_restart_1 ?_
  refine zc_getI (j := 17) hW fl_RX11_91 rfl dX11_restart_4 ?_
  refine z_if_ne (tgt := 13) dX11_restart_7 (by decide) (fun c7 => ?_) (fun c7 => ?_)
  · show zS _ _ _ _ _ _ _ 13 _ _ _ _ _
    rw [brest_1 c7]
    refine z_aload0 dX11_restart_13 ?_
    refine zc_getF (j := 0) hW fl_RX11_43 rfl (by decide) (hF _ (List.mem_of_getElem? (i := 4) rfl)) dX11_restart_14 ?_
    refine zc_getI (j := 17) hW fl_RX11_91 rfl dX11_restart_17 ?_
    refine z_istore1 dX11_restart_20 ?_
    refine z_aload0 dX11_restart_21 ?_
    refine zc_getF (j := 0) hW fl_RX11_43 rfl (by decide) (hF _ (List.mem_of_getElem? (i := 4) rfl)) dX11_restart_22 ?_
    refine z_callV zmd_X8_begin rfl (by decide) zl_RX11_76 zin_X8_begin zsel_X8_begin (B_X8_begin (d := d - 1) hW hF hw  (by omega)) (hW.i 17 rfl) rfl rfl (by omega) rfl dX11_restart_25 (fun r1 g1 f1 mc1 ms1 q1 => ?_)
    obtain ⟨rfl, rfl, rfl, hc1, hs1, w1, k1, b1⟩ := q1
    refine z_iload1 dX11_restart_28 ?_
    refine z_iret dX11_restart_29 rfl ?_
    exact ⟨rfl, rfl, rfl, by omega, by omega, w1, k1, b1⟩
  · show zS _ _ _ _ _ _ _ 10 _ _ _ _ _
    rw [brest_0 c7]
    refine z_bipush (v := (-2)) dX11_restart_10 (by decide) ?_
    refine z_iret dX11_restart_12 rfl ?_
    exact ⟨rfl, rfl, rfl, by omega, by omega, hw, zLe.rf, hW⟩
