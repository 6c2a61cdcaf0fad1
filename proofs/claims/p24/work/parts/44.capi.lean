/-! The class's face, over the block. -/
theorem zd_putS {l : Launch} {d : Nat} {D : zD} {b0 : Nat} {mi : zMI} {cs ns pc : Nat} {L : List (Option Value)} {st : List Value} {g : zG} {f C : zI} {R : zRf} {c : Nat} {Q : Nat → Nat → zKT → Prop} {X : Nat → Prop} {idx ci k a t' v : Nat} {ty : FieldType} (hw : zOK b0 X (gv c g R)) (hW : CW b0 g c) (hf : zFl mi.1.cls idx ci k ty false t') (h9 : t' ≠ 99) (hty : (∃ n, ty = .object n) ∨ ∃ t, ty = .array t) (ha : zIn b0 g a ci) (ho : ∀ q ∈ bT, ci ≠ q.1) (hv : zIn b0 g v t') (hq : ∀ q ∈ zSh, ci = q.1 → k = q.2.1 → q.2.2 = none) (hd : decode mi.2.1 pc = .ok (.putfield idx, 3))
    (kk : zOK b0 X (gv c (zpR g a k (some v)) R) → zS l d D b0 mi cs ns (pc + 3) L st (gv c (zpR g a k (some v)) R) (cv c f C) Q) : zS l d D b0 mi cs ns pc L (.ref v :: .ref a :: st) (gv c g R) (cv c f C) Q := by
  refine zw_putS hw hf h9 hty ha.gv hv.gv hq hd (fun h => ?_)
  rw [gv_stD (hW.out ha ho)] at h ⊢
  exact kk h
def bwrite (C : zI) (x : Int32) : Int32 × zI := if x < 32 ∨ 126 < x then (-1, C) else if C 0 1 < 120 then (C 0 1 + 1, zup (zup C 1 (tn (C 0 1)) x) 0 1 (C 0 1 + 1)) else (-3, C)
theorem bwrite_b {C : zI} {x : Int32} (h : x < 32 ∨ 126 < x) : bwrite C x = (-1, C) := if_pos h
theorem bwrite_f {C : zI} {x : Int32} (h : ¬ (x < 32 ∨ 126 < x)) (h2 : ¬ C 0 1 < 120) : bwrite C x = (-3, C) := (if_neg h).trans (if_neg h2)
theorem bwrite_w {C : zI} {x : Int32} (h : ¬ (x < 32 ∨ 126 < x)) (h2 : C 0 1 < 120) : bwrite C x = (C 0 1 + 1, zup (zup C 1 (tn (C 0 1)) x) 0 1 (C 0 1 + 1)) := (if_neg h).trans (if_pos h2)
set_option maxRecDepth 20000 in
set_option maxHeartbeats 400000 in
theorem B_X11_write {l : Launch} {d : Nat} {D : zD} {b0 : Nat} {g : zG} {f C : zI} {R : zRf} {c : Nat} (hW : CW b0 g c) (hF : CF c R) (hw : zOK b0 zNo (gv c g R)) (x : Int32) (hl : iv 121 (C 0 1)) : zM l d D b0 mX11_write [.ref (c + 0), .int x] (gv c g R) (cv c f C) (zCy b0 zNo c g (some (.int (bwrite C x).1)) g R f (bwrite C x).2 0 0) := by
  refine zM.start zmd_X11_write (Nat.le_of_ble_eq_true rfl) ⟨rfl, rfl, trivial⟩ [some (.ref (c + 0)), some (.int x)] rfl ?_
  refine z_iload1 dX11_write_0 ?_
  refine z_bipush (v := 32) dX11_write_1 (by decide) ?_
  refine z_icmp_lt (tgt := 12) dX11_write_3 (by decide) (fun c3 => ?_) (fun c3 => ?_)
  · show zS _ _ _ _ _ _ _ 12 _ _ _ _ _
    rw [bwrite_b (Or.inl c3)]
    refine z_iconst (v := (-1)) dX11_write_12 (by decide) ?_
    refine z_iret dX11_write_13 rfl ?_
    exact ⟨rfl, rfl, rfl, by omega, by omega, hw, zLe.rf, hW⟩
  · show zS _ _ _ _ _ _ _ 6 _ _ _ _ _
    refine z_iload1 dX11_write_6 ?_
    refine z_bipush (v := 126) dX11_write_7 (by decide) ?_
    refine z_icmp_le (tgt := 14) dX11_write_9 (by decide) (fun c9 => ?_) (fun c9 => ?_)
    · show zS _ _ _ _ _ _ _ 14 _ _ _ _ _
      have hx : ¬ (x < 32 ∨ 126 < x) := fun q => q.elim c3 (by first | exact c9 | (intro q2; exact c9 q2))
      refine z_aload0 dX11_write_14 ?_
      refine zc_getI (j := 0) hW fl_RX11_13 rfl dX11_write_15 ?_
      refine z_bipush (v := 120) dX11_write_18 (by decide) ?_
      refine z_icmp_lt (tgt := 26) dX11_write_20 (by decide) (fun c20 => ?_) (fun c20 => ?_)
      · show zS _ _ _ _ _ _ _ 26 _ _ _ _ _
        rw [bwrite_w hx c20]
        have hl2 : tn (C 0 1) < 120 := by
          have q := c20
          rw [hl.2] at q
          exact (nI_ltI (b := 120) (by have := hl.1; omega) (by decide)).mp q
        refine z_aload0 dX11_write_26 ?_
        refine zc_getF (j := 0) hW fl_RX11_9 rfl (by decide) (hF _ (List.mem_of_getElem? (i := 0) rfl)) dX11_write_27 ?_
        refine z_aload0 dX11_write_30 ?_
        refine zc_getI (j := 0) hW fl_RX11_13 rfl dX11_write_31 ?_
        refine z_iload1 dX11_write_34 ?_
        refine zc_st (j := 1) hW rfl (by decide) hl.2 (by omega) dX11_write_35 ?_
        refine z_aload0 dX11_write_36 ?_
        refine z_dup dX11_write_37 ?_
        refine zc_getI (j := 0) hW fl_RX11_13 rfl dX11_write_38 ?_
        refine z_iconst (v := 1) dX11_write_41 (by decide) ?_
        refine z_iadd dX11_write_42 ?_
        show zS _ _ _ _ _ _ _ 43 _ _ _ _ _
        refine zc_putI (j := 0) hW fl_RX11_13 rfl dX11_write_43 ?_
        refine z_aload0 dX11_write_46 ?_
        refine zc_getI (j := 0) hW fl_RX11_13 rfl dX11_write_47 ?_
        refine z_iret dX11_write_50 rfl ?_
        exact ⟨rfl, rfl, rfl, by omega, by omega, hw, zLe.rf, hW⟩
      · show zS _ _ _ _ _ _ _ 23 _ _ _ _ _
        rw [bwrite_f hx c20]
        refine z_bipush (v := (-3)) dX11_write_23 (by decide) ?_
        refine z_iret dX11_write_25 rfl ?_
        exact ⟨rfl, rfl, rfl, by omega, by omega, hw, zLe.rf, hW⟩
    · show zS _ _ _ _ _ _ _ 12 _ _ _ _ _
      rw [bwrite_b (Or.inr (by first | exact c9 | exact Classical.not_not.mp c9))]
      refine z_iconst (v := (-1)) dX11_write_12 (by decide) ?_
      refine z_iret dX11_write_13 rfl ?_
      exact ⟨rfl, rfl, rfl, by omega, by omega, hw, zLe.rf, hW⟩
set_option maxRecDepth 20000 in
set_option maxHeartbeats 400000 in
theorem B_X11_wipe {l : Launch} {d : Nat} {D : zD} {b0 : Nat} {g : zG} {f C : zI} {R : zRf} {c : Nat} (hW : CW b0 g c) (hF : CF c R) (hw : zOK b0 zNo (gv c g R))  : zM l d D b0 mX11_wipe [.ref (c + 0)] (gv c g R) (cv c f C) (zCy b0 zNo c g (some (.int (C 0 1))) g R f (zup C 0 1 0) 0 0) := by
  refine zM.start zmd_X11_wipe (Nat.le_of_ble_eq_true rfl) ⟨rfl, trivial⟩ [some (.ref (c + 0)), none] rfl ?_
  refine z_aload0 dX11_wipe_0 ?_
  refine zc_getI (j := 0) hW fl_RX11_13 rfl dX11_wipe_1 ?_
  refine z_istore1 dX11_wipe_4 ?_
  refine z_aload0 dX11_wipe_5 ?_
  refine z_iconst (v := 0) dX11_wipe_6 (by decide) ?_
  refine zc_putI (j := 0) hW fl_RX11_13 rfl dX11_wipe_7 ?_
  refine z_iload1 dX11_wipe_10 ?_
  refine z_iret dX11_wipe_11 rfl ?_
  exact ⟨rfl, rfl, rfl, by omega, by omega, hw, zLe.rf, hW⟩
def bfault (g : zG) (R : zRf) (f C : zI) (len : Nat) (x : Int32) : bSt × Int32 := if x = 0 then bread g R f C len 0 else if x = 1 then bread g R f C len 1 else ((g, R, f, C), -1)
theorem bfault_0 {g : zG} {R : zRf} {f C : zI} {len : Nat} {x : Int32} (h : x = 0) : bfault g R f C len x = bread g R f C len 0 := if_pos h
theorem bfault_1 {g : zG} {R : zRf} {f C : zI} {len : Nat} {x : Int32} (h : x = 1) : bfault g R f C len x = bread g R f C len 1 := (if_neg (by rw [h]; decide)).trans (if_pos h)
theorem bfault_n {g : zG} {R : zRf} {f C : zI} {len : Nat} {x : Int32} (h : ¬ x = 0) (h1 : ¬ x = 1) : bfault g R f C len x = ((g, R, f, C), -1) := (if_neg h).trans (if_neg h1)
set_option maxRecDepth 20000 in
set_option maxHeartbeats 400000 in
theorem B_X11_fault {l : Launch} {d : Nat} {D : zD} {b0 : Nat} {g : zG} {f C : zI} {R : zRf} {c : Nat} (hW : CW b0 g c) (hF : CF c R) (hw : zOK b0 zNo (gv c g R)) (x : Int32) (len : Nat) (hln : C 0 1 = nI len) (hlen : len ≤ 120) (h6 : ∀ k, iv 7 (C 6 k)) (hE : EO b0 g c) (hd : 7 ≤ d) : zM l d D b0 mX11_fault [.ref (c + 0), .int x] (gv c g R) (cv c f C) (zCy b0 zNo c g (some (.int (bfault g R f C len x).2)) (bfault g R f C len x).1.1 (bfault g R f C len x).1.2.1 (bfault g R f C len x).1.2.2.1 (bfault g R f C len x).1.2.2.2 (3 * len) (24 * len)) := by
  refine zM.start zmd_X11_fault (Nat.le_of_ble_eq_true rfl) ⟨rfl, rfl, trivial⟩ [some (.ref (c + 0)), some (.int x)] rfl ?_
  refine z_iload1 dX11_fault_0 ?_
  refine z_if_eq (tgt := 11) dX11_fault_1 (by decide) (fun c1 => ?_) (fun c1 => ?_)
  · show zS _ _ _ _ _ _ _ 11 _ _ _ _ _
    refine z_aload0 dX11_fault_11 ?_
    refine zc_getF (j := 0) hW fl_RX11_20 rfl (by decide) (hF _ (List.mem_of_getElem? (i := 1) rfl)) dX11_fault_12 ?_
    refine z_aload0 dX11_fault_15 ?_
    refine zc_getF (j := 0) hW fl_RX11_9 rfl (by decide) (hF _ (List.mem_of_getElem? (i := 0) rfl)) dX11_fault_16 ?_
    refine z_aload0 dX11_fault_19 ?_
    refine zc_getI (j := 0) hW fl_RX11_13 rfl dX11_fault_20 ?_
    rw [hln]
    refine z_iload1 dX11_fault_23 ?_
    refine z_iconst (v := 1) dX11_fault_24 (by decide) ?_
    refine z_icmp_ne (tgt := 32) dX11_fault_25 (by decide) (fun c25 => ?_) (fun c25 => ?_)
    · show zS _ _ _ _ _ _ _ 32 _ _ _ _ _
      rw [bfault_0 c1]
      refine z_iconst (v := 0) dX11_fault_32 (by decide) ?_
      refine z_callV zmd_X6_read rfl (by decide) zl_RX11_42 zin_X6_read zsel_X6_read (B_X6_read (d := d - 1) hW hF hw len _ hlen h6 hE (by omega)) (hW.i 2 rfl) rfl rfl (by omega) rfl dX11_fault_33 (fun r1 g1 f1 mc1 ms1 q1 => ?_)
      obtain ⟨rfl, rfl, rfl, hc1, hs1, w1, k1, b1⟩ := q1
      refine z_iret dX11_fault_36 rfl ?_
      exact ⟨rfl, rfl, rfl, by omega, by omega, w1, k1, b1⟩
    · exact absurd (c1.symm.trans c25) (by decide)
  · show zS _ _ _ _ _ _ _ 4 _ _ _ _ _
    refine z_iload1 dX11_fault_4 ?_
    refine z_iconst (v := 1) dX11_fault_5 (by decide) ?_
    refine z_icmp_eq (tgt := 11) dX11_fault_6 (by decide) (fun c6 => ?_) (fun c6 => ?_)
    · show zS _ _ _ _ _ _ _ 11 _ _ _ _ _
      refine z_aload0 dX11_fault_11 ?_
      refine zc_getF (j := 0) hW fl_RX11_20 rfl (by decide) (hF _ (List.mem_of_getElem? (i := 1) rfl)) dX11_fault_12 ?_
      refine z_aload0 dX11_fault_15 ?_
      refine zc_getF (j := 0) hW fl_RX11_9 rfl (by decide) (hF _ (List.mem_of_getElem? (i := 0) rfl)) dX11_fault_16 ?_
      refine z_aload0 dX11_fault_19 ?_
      refine zc_getI (j := 0) hW fl_RX11_13 rfl dX11_fault_20 ?_
      rw [hln]
      refine z_iload1 dX11_fault_23 ?_
      refine z_iconst (v := 1) dX11_fault_24 (by decide) ?_
      refine z_icmp_ne (tgt := 32) dX11_fault_25 (by decide) (fun c25 => ?_) (fun c25 => ?_)
      · exact absurd c6 c25
      · show zS _ _ _ _ _ _ _ 28 _ _ _ _ _
        rw [bfault_1 c25]
        refine z_iconst (v := 1) dX11_fault_28 (by decide) ?_
        refine z_goto (tgt := 33) dX11_fault_29 (by decide) ?_
        show zS _ _ _ _ _ _ _ 33 _ _ _ _ _
        refine z_callV zmd_X6_read rfl (by decide) zl_RX11_42 zin_X6_read zsel_X6_read (B_X6_read (d := d - 1) hW hF hw len _ hlen h6 hE (by omega)) (hW.i 2 rfl) rfl rfl (by omega) rfl dX11_fault_33 (fun r2 g2 f2 mc2 ms2 q2 => ?_)
        obtain ⟨rfl, rfl, rfl, hc2, hs2, w2, k2, b2⟩ := q2
        refine z_iret dX11_fault_36 rfl ?_
        exact ⟨rfl, rfl, rfl, by omega, by omega, w2, k2, b2⟩
    · show zS _ _ _ _ _ _ _ 9 _ _ _ _ _
      rw [bfault_n c1 c6]
      refine z_iconst (v := (-1)) dX11_fault_9 (by decide) ?_
      refine z_iret dX11_fault_10 rfl ?_
      exact ⟨rfl, rfl, rfl, by omega, by omega, hw, zLe.rf, hW⟩
def bundef (R : zRf) (x : Int32) : Int32 × zRf := if ¬ x < 0 ∧ x < 4 then ((if R 18 (tn x) = none then 0 else 1), zup R 18 (tn x) none) else (-1, R)
theorem bundef_n {R : zRf} {x : Int32} (h : ¬ (¬ x < 0 ∧ x < 4)) : bundef R x = (-1, R) := if_neg h
theorem bundef_0 {R : zRf} {x : Int32} (h : ¬ x < 0 ∧ x < 4) (h2 : R 18 (tn x) = none) : bundef R x = (0, zup R 18 (tn x) none) := (if_pos h).trans (by rw [if_pos h2])
theorem bundef_1 {R : zRf} {x : Int32} (h : ¬ x < 0 ∧ x < 4) (h2 : ¬ R 18 (tn x) = none) : bundef R x = (1, zup R 18 (tn x) none) := (if_pos h).trans (by rw [if_neg h2])
def brest (g : zG) (R : zRf) (C : zI) : Int32 × zRf × zI := if C 17 2 = 0 then (-2, R, C) else (C 17 2, bbegin g R C)
theorem brest_0 {g : zG} {R : zRf} {C : zI} (h : C 17 2 = 0) : brest g R C = (-2, R, C) := if_pos h
theorem brest_1 {g : zG} {R : zRf} {C : zI} (h : ¬ C 17 2 = 0) : brest g R C = (C 17 2, bbegin g R C) := if_neg h
set_option maxRecDepth 20000 in
set_option maxHeartbeats 400000 in
theorem B_X11_restart {l : Launch} {d : Nat} {D : zD} {b0 : Nat} {g : zG} {f C : zI} {R : zRf} {c : Nat} (hW : CW b0 g c) (hF : CF c R) (hw : zOK b0 zNo (gv c g R))  (hd : 2 ≤ d) : zM l d D b0 mX11_restart [.ref (c + 0)] (gv c g R) (cv c f C) (zCy b0 zNo c g (some (.int (brest g R C).1)) g (brest g R C).2.1 f (brest g R C).2.2 0 0) := by
  refine zM.start zmd_X11_restart (Nat.le_of_ble_eq_true rfl) ⟨rfl, trivial⟩ [some (.ref (c + 0)), none] rfl ?_
  refine z_aload0 dX11_restart_0 ?_
  refine zc_getF (j := 0) hW fl_RX11_34 rfl (by decide) (hF _ (List.mem_of_getElem? (i := 3) rfl)) dX11_restart_1 ?_
  refine zc_getI (j := 17) hW fl_RX11_82 rfl dX11_restart_4 ?_
  refine z_if_ne (tgt := 13) dX11_restart_7 (by decide) (fun c7 => ?_) (fun c7 => ?_)
  · show zS _ _ _ _ _ _ _ 13 _ _ _ _ _
    rw [brest_1 c7]
    refine z_aload0 dX11_restart_13 ?_
    refine zc_getF (j := 0) hW fl_RX11_34 rfl (by decide) (hF _ (List.mem_of_getElem? (i := 3) rfl)) dX11_restart_14 ?_
    refine zc_getI (j := 17) hW fl_RX11_82 rfl dX11_restart_17 ?_
    refine z_istore1 dX11_restart_20 ?_
    refine z_aload0 dX11_restart_21 ?_
    refine zc_getF (j := 0) hW fl_RX11_34 rfl (by decide) (hF _ (List.mem_of_getElem? (i := 3) rfl)) dX11_restart_22 ?_
    refine z_callV zmd_X8_begin rfl (by decide) zl_RX11_67 zin_X8_begin zsel_X8_begin (B_X8_begin (d := d - 1) hW hF hw  (by omega)) (hW.i 17 rfl) rfl rfl (by omega) rfl dX11_restart_25 (fun r1 g1 f1 mc1 ms1 q1 => ?_)
    obtain ⟨rfl, rfl, rfl, hc1, hs1, w1, k1, b1⟩ := q1
    refine z_iload1 dX11_restart_28 ?_
    refine z_iret dX11_restart_29 rfl ?_
    exact ⟨rfl, rfl, rfl, by omega, by omega, w1, k1, b1⟩
  · show zS _ _ _ _ _ _ _ 10 _ _ _ _ _
    rw [brest_0 c7]
    refine z_bipush (v := (-2)) dX11_restart_10 (by decide) ?_
    refine z_iret dX11_restart_12 rfl ?_
    exact ⟨rfl, rfl, rfl, by omega, by omega, hw, zLe.rf, hW⟩
def blisting (g : zG) (f : zI) (R : zRf) (x : Int32) : Int32 := if x < 0 then -1 else match R 17 0 with
  | none => -2
  | some b => if x < nI (g.2.2.1 (pA g b 2)) then f (pA g b 2) (tn x) else -9
theorem blisting_b {g : zG} {f : zI} {R : zRf} {x : Int32} (h : x < 0) : blisting g f R x = -1 := if_pos h
theorem blisting_n {g : zG} {f : zI} {R : zRf} {x : Int32} (h : ¬ x < 0) (h2 : R 17 0 = none) : blisting g f R x = -2 := by unfold blisting; rw [if_neg h, h2]
theorem blisting_s {g : zG} {f : zI} {R : zRf} {x : Int32} {b : Nat} (h : ¬ x < 0) (h2 : R 17 0 = some b) (h3 : x < nI (g.2.2.1 (pA g b 2))) : blisting g f R x = f (pA g b 2) (tn x) := by unfold blisting; rw [if_neg h, h2]; exact if_pos h3
theorem blisting_e {g : zG} {f : zI} {R : zRf} {x : Int32} {b : Nat} (h : ¬ x < 0) (h2 : R 17 0 = some b) (h3 : ¬ x < nI (g.2.2.1 (pA g b 2))) : blisting g f R x = -9 := by unfold blisting; rw [if_neg h, h2]; exact if_neg h3
def bmay (g : zG) (R : zRf) (f : zI) (j : Nat) (p a v : Int32) : Int32 × zI :=
  if (p = -1 ∨ (¬ p < 0 ∧ p < 4)) ∧ (¬ a < 0 ∧ a < 6) ∧ ¬ v < 0 ∧ v < 4 then
    (match (if p = -1 then R 17 0 else R 18 (tn p)) with
      | none => (-2, f)
      | some b => (if gfix g R j (gclear g R f) (pA g b 0) 8 &&& gpair a v = 0 then 0 else 1, gfix g R j (gclear g R f)))
  else (-1, f)
theorem bmay_b {g : zG} {R : zRf} {f : zI} {j : Nat} {p a v : Int32} (h : ¬ ((p = -1 ∨ (¬ p < 0 ∧ p < 4)) ∧ (¬ a < 0 ∧ a < 6) ∧ ¬ v < 0 ∧ v < 4)) : bmay g R f j p a v = (-1, f) := if_neg h
theorem bmay_n {g : zG} {R : zRf} {f : zI} {j : Nat} {p a v : Int32} (h : (p = -1 ∨ (¬ p < 0 ∧ p < 4)) ∧ (¬ a < 0 ∧ a < 6) ∧ ¬ v < 0 ∧ v < 4) (h2 : (if p = -1 then R 17 0 else R 18 (tn p)) = none) : bmay g R f j p a v = (-2, f) := by unfold bmay; rw [if_pos h, h2]
theorem bmay_s {g : zG} {R : zRf} {f : zI} {j : Nat} {p a v : Int32} {b : Nat} (h : (p = -1 ∨ (¬ p < 0 ∧ p < 4)) ∧ (¬ a < 0 ∧ a < 6) ∧ ¬ v < 0 ∧ v < 4) (h2 : (if p = -1 then R 17 0 else R 18 (tn p)) = some b) : bmay g R f j p a v = (if gfix g R j (gclear g R f) (pA g b 0) 8 &&& gpair a v = 0 then 0 else 1, gfix g R j (gclear g R f)) := by unfold bmay; rw [if_pos h, h2]
set_option maxRecDepth 20000 in
set_option maxHeartbeats 400000 in
theorem B_X11_may {l : Launch} {d : Nat} {D : zD} {b0 : Nat} {g : zG} {f C : zI} {R : zRf} {c : Nat} (hW : CW b0 g c) (hF : CF c R) (hw : zOK b0 zNo (gv c g R)) (p a v : Int32) (j : Nat) (hj : j ≤ 999999) (hB : ∀ k, k < 4 → BAo b0 g c (R 18 k)) (hM : BAo b0 g c (R 17 0)) (hV : gfixV g R j (gclear g R f)) (hd : 6 ≤ d) : zM l d D b0 mX11_may [.ref (c + 0), .int p, .int a, .int v] (gv c g R) (cv c f C) (zCy b0 zNo c g (some (.int (bmay g R f j p a v).1)) g R (bmay g R f j p a v).2 C 0 0) := by
  refine zM.start zmd_X11_may (Nat.le_of_ble_eq_true rfl) ⟨rfl, rfl, rfl, rfl, trivial⟩ [some (.ref (c + 0)), some (.int p), some (.int a), some (.int v), none] rfl ?_
  refine z_iload1 dX11_may_0 ?_
  refine z_iconst (v := (-1)) dX11_may_1 (by decide) ?_
  refine z_icmp_eq (tgt := 12) dX11_may_2 (by decide) (fun c2 => ?_) (fun c2 => ?_)
  · show zS _ _ _ _ _ _ _ 12 _ _ _ _ _
    refine z_iload2 dX11_may_12 ?_
    refine z_callSi zmd_X11_isOperation zl_RX11_85 zst_X11_isOperation (K_X11_isOperation (d := d - 1) _) rfl rfl (by omega) rfl dX11_may_13 ?_
    refine z_if_eq (tgt := 28) dX11_may_16 (by decide) (fun c16 => ?_) (fun c16 => ?_)
    · show zS _ _ _ _ _ _ _ 28 _ _ _ _ _
      refine z_iconst (v := (-1)) dX11_may_28 (by decide) ?_
      refine z_iret dX11_may_29 rfl ?_
      rw [bmay_b (fun q => zB_f c16 q.2.1)]
      exact ⟨rfl, rfl, rfl, by omega, by omega, hw, zLe.rf, hW⟩
    · show zS _ _ _ _ _ _ _ 19 _ _ _ _ _
      refine z_iload3 dX11_may_19 ?_
      refine z_if_lt (tgt := 28) dX11_may_20 (by decide) (fun c20 => ?_) (fun c20 => ?_)
      · show zS _ _ _ _ _ _ _ 28 _ _ _ _ _
        refine z_iconst (v := (-1)) dX11_may_28 (by decide) ?_
        refine z_iret dX11_may_29 rfl ?_
        rw [bmay_b (fun q => q.2.2.1 c20)]
        exact ⟨rfl, rfl, rfl, by omega, by omega, hw, zLe.rf, hW⟩
      · show zS _ _ _ _ _ _ _ 23 _ _ _ _ _
        refine z_iload3 dX11_may_23 ?_
        refine z_iconst (v := 4) dX11_may_24 (by decide) ?_
        refine z_icmp_lt (tgt := 30) dX11_may_25 (by decide) (fun c25 => ?_) (fun c25 => ?_)
        · show zS _ _ _ _ _ _ _ 30 _ _ _ _ _
          have hgd : (p = -1 ∨ (¬ p < 0 ∧ p < 4)) ∧ (¬ a < 0 ∧ a < 6) ∧ ¬ v < 0 ∧ v < 4 := ⟨Or.inl c2, zB_t c16, c20, by first | exact c25 | exact Classical.not_not.mp c25⟩
          refine z_iload1 dX11_may_30 ?_
          refine z_iconst (v := (-1)) dX11_may_31 (by decide) ?_
          refine z_icmp_ne (tgt := 45) dX11_may_32 (by decide) (fun c32 => ?_) (fun c32 => ?_)
          · exact absurd c2 c32
          · show zS _ _ _ _ _ _ _ 35 _ _ _ _ _
            refine z_aload0 dX11_may_35 ?_
            refine zc_getF (j := 0) hW fl_RX11_34 rfl (by decide) (hF _ (List.mem_of_getElem? (i := 3) rfl)) dX11_may_36 ?_
            refine zc_getN (j := 17) hw hW fl_RX11_63 rfl (by decide) dX11_may_39 (fun i2 => ?_)
            refine z_goto (tgt := 54) dX11_may_42 (by decide) ?_
            show zS _ _ _ _ _ _ _ 54 _ _ _ _ _
            refine z_astore4 dX11_may_54 ?_
            refine z_aload4 dX11_may_56 ?_
            refine z_ifnonnull (tgt := 64) dX11_may_58 (by decide) (fun a58 c58 => ?_) (fun c58 => ?_)
            · show zS _ _ _ _ _ _ _ 64 _ _ _ _ _
              rw [bmay_s hgd ((if_pos c2).trans c58)]
              have hbb : zIn b0 g a58 0 := i2 _ c58
              rw [c58]
              refine z_aload0 dX11_may_64 ?_
              refine zc_getF (j := 0) hW fl_RX11_34 rfl (by decide) (hF _ (List.mem_of_getElem? (i := 3) rfl)) dX11_may_65 ?_
              refine z_callV zmd_X8_gatherLeaves rfl (by decide) zl_RX11_88 zin_X8_gatherLeaves zsel_X8_gatherLeaves (B_X8_gatherLeaves (d := d - 1) hW hF hw j hj hB hM hV (by omega)) (hW.i 17 rfl) rfl rfl (by omega) rfl dX11_may_68 (fun r3 g3 f3 mc3 ms3 q3 => ?_)
              obtain ⟨rfl, rfl, rfl, hc3, hs3, w3, k3, b3⟩ := q3
              refine z_aload4 dX11_may_71 ?_
              refine zd_getFr w3 b3 fl_RX11_50 (hbb.le k3) (by decide) (fun h => h) (by decide) (by decide) dX11_may_73 (fun e4 i4 => ?_)
              refine zd_getI b3 fl_RX11_91 i4 (by decide) dX11_may_76 ?_
              refine z_iload2 dX11_may_79 ?_
              refine z_iload3 dX11_may_80 ?_
              refine z_callSi zmd_X1_pair zl_RX11_96 zst_X1_pair (K_X1_pair (d := d - 1) _ _) rfl rfl (by omega) rfl dX11_may_81 ?_
              refine z_iand dX11_may_84 ?_
              refine z_if_eq (tgt := 92) dX11_may_85 (by decide) (fun c85 => ?_) (fun c85 => ?_)
              · show zS _ _ _ _ _ _ _ 92 _ _ _ _ _
                refine z_iconst (v := 0) dX11_may_92 (by decide) ?_
                refine z_iret dX11_may_93 rfl ?_
                show zCy _ _ _ _ (some (.int (if _ then (0 : Int32) else 1))) _ _ _ _ _ _ _ _ _ _ _
                rw [if_pos c85]
                exact ⟨rfl, rfl, rfl, by omega, by omega, w3, k3, b3⟩
              · show zS _ _ _ _ _ _ _ 88 _ _ _ _ _
                refine z_iconst (v := 1) dX11_may_88 (by decide) ?_
                refine z_goto (tgt := 93) dX11_may_89 (by decide) ?_
                show zS _ _ _ _ _ _ _ 93 _ _ _ _ _
                refine z_iret dX11_may_93 rfl ?_
                show zCy _ _ _ _ (some (.int (if _ then (0 : Int32) else 1))) _ _ _ _ _ _ _ _ _ _ _
                rw [if_neg c85]
                exact ⟨rfl, rfl, rfl, by omega, by omega, w3, k3, b3⟩
            · show zS _ _ _ _ _ _ _ 61 _ _ _ _ _
              rw [bmay_n hgd ((if_pos c2).trans c58)]
              refine z_bipush (v := (-2)) dX11_may_61 (by decide) ?_
              refine z_iret dX11_may_63 rfl ?_
              exact ⟨rfl, rfl, rfl, by omega, by omega, hw, zLe.rf, hW⟩
        · show zS _ _ _ _ _ _ _ 28 _ _ _ _ _
          refine z_iconst (v := (-1)) dX11_may_28 (by decide) ?_
          refine z_iret dX11_may_29 rfl ?_
          rw [bmay_b (fun q => absurd q.2.2.2 (by first | exact c25 | (intro q2; exact c25 q2)))]
          exact ⟨rfl, rfl, rfl, by omega, by omega, hw, zLe.rf, hW⟩
  · show zS _ _ _ _ _ _ _ 5 _ _ _ _ _
    refine z_iload1 dX11_may_5 ?_
    refine z_callSi zmd_X11_isProcedure zl_RX11_74 zst_X11_isProcedure (K_X11_isProcedure (d := d - 1) _) rfl rfl (by omega) rfl dX11_may_6 ?_
    refine z_if_eq (tgt := 28) dX11_may_9 (by decide) (fun c9 => ?_) (fun c9 => ?_)
    · show zS _ _ _ _ _ _ _ 28 _ _ _ _ _
      refine z_iconst (v := (-1)) dX11_may_28 (by decide) ?_
      refine z_iret dX11_may_29 rfl ?_
      rw [bmay_b (fun q => q.1.elim c2 (fun q1 => zB_f c9 q1))]
      exact ⟨rfl, rfl, rfl, by omega, by omega, hw, zLe.rf, hW⟩
    · show zS _ _ _ _ _ _ _ 12 _ _ _ _ _
      refine z_iload2 dX11_may_12 ?_
      refine z_callSi zmd_X11_isOperation zl_RX11_85 zst_X11_isOperation (K_X11_isOperation (d := d - 1) _) rfl rfl (by omega) rfl dX11_may_13 ?_
      refine z_if_eq (tgt := 28) dX11_may_16 (by decide) (fun c16 => ?_) (fun c16 => ?_)
      · show zS _ _ _ _ _ _ _ 28 _ _ _ _ _
        refine z_iconst (v := (-1)) dX11_may_28 (by decide) ?_
        refine z_iret dX11_may_29 rfl ?_
        rw [bmay_b (fun q => zB_f c16 q.2.1)]
        exact ⟨rfl, rfl, rfl, by omega, by omega, hw, zLe.rf, hW⟩
      · show zS _ _ _ _ _ _ _ 19 _ _ _ _ _
        refine z_iload3 dX11_may_19 ?_
        refine z_if_lt (tgt := 28) dX11_may_20 (by decide) (fun c20 => ?_) (fun c20 => ?_)
        · show zS _ _ _ _ _ _ _ 28 _ _ _ _ _
          refine z_iconst (v := (-1)) dX11_may_28 (by decide) ?_
          refine z_iret dX11_may_29 rfl ?_
          rw [bmay_b (fun q => q.2.2.1 c20)]
          exact ⟨rfl, rfl, rfl, by omega, by omega, hw, zLe.rf, hW⟩
        · show zS _ _ _ _ _ _ _ 23 _ _ _ _ _
          refine z_iload3 dX11_may_23 ?_
          refine z_iconst (v := 4) dX11_may_24 (by decide) ?_
          refine z_icmp_lt (tgt := 30) dX11_may_25 (by decide) (fun c25 => ?_) (fun c25 => ?_)
          · show zS _ _ _ _ _ _ _ 30 _ _ _ _ _
            have hgd : (p = -1 ∨ (¬ p < 0 ∧ p < 4)) ∧ (¬ a < 0 ∧ a < 6) ∧ ¬ v < 0 ∧ v < 4 := ⟨Or.inr (zB_t c9), zB_t c16, c20, by first | exact c25 | exact Classical.not_not.mp c25⟩
            refine z_iload1 dX11_may_30 ?_
            refine z_iconst (v := (-1)) dX11_may_31 (by decide) ?_
            refine z_icmp_ne (tgt := 45) dX11_may_32 (by decide) (fun c32 => ?_) (fun c32 => ?_)
            · show zS _ _ _ _ _ _ _ 45 _ _ _ _ _
              have hpi := iv4 (zB_t c9)
              have hp1 := hpi.1
              refine z_aload0 dX11_may_45 ?_
              refine zc_getF (j := 0) hW fl_RX11_34 rfl (by decide) (hF _ (List.mem_of_getElem? (i := 3) rfl)) dX11_may_46 ?_
              refine zc_getF (j := 17) hW fl_RX11_78 rfl (by decide) (hF _ (List.mem_of_getElem? (i := 18) rfl)) dX11_may_49 ?_
              refine z_iload1 dX11_may_52 ?_
              refine zc_ald (j := 18) (t' := 0) hw hW rfl (by decide) (by decide) (hpi.2 : _ = nI (tn p)) (by omega) (fun _ => rfl) (by decide) dX11_may_53 (fun i8 => ?_)
              refine z_astore4 dX11_may_54 ?_
              refine z_aload4 dX11_may_56 ?_
              refine z_ifnonnull (tgt := 64) dX11_may_58 (by decide) (fun a58 c58 => ?_) (fun c58 => ?_)
              · show zS _ _ _ _ _ _ _ 64 _ _ _ _ _
                rw [bmay_s hgd ((if_neg c2).trans c58)]
                have hbb : zIn b0 g a58 0 := i8 _ c58
                rw [c58]
                refine z_aload0 dX11_may_64 ?_
                refine zc_getF (j := 0) hW fl_RX11_34 rfl (by decide) (hF _ (List.mem_of_getElem? (i := 3) rfl)) dX11_may_65 ?_
                refine z_callV zmd_X8_gatherLeaves rfl (by decide) zl_RX11_88 zin_X8_gatherLeaves zsel_X8_gatherLeaves (B_X8_gatherLeaves (d := d - 1) hW hF hw j hj hB hM hV (by omega)) (hW.i 17 rfl) rfl rfl (by omega) rfl dX11_may_68 (fun r9 g9 f9 mc9 ms9 q9 => ?_)
                obtain ⟨rfl, rfl, rfl, hc9, hs9, w9, k9, b9⟩ := q9
                refine z_aload4 dX11_may_71 ?_
                refine zd_getFr w9 b9 fl_RX11_50 (hbb.le k9) (by decide) (fun h => h) (by decide) (by decide) dX11_may_73 (fun e10 i10 => ?_)
                refine zd_getI b9 fl_RX11_91 i10 (by decide) dX11_may_76 ?_
                refine z_iload2 dX11_may_79 ?_
                refine z_iload3 dX11_may_80 ?_
                refine z_callSi zmd_X1_pair zl_RX11_96 zst_X1_pair (K_X1_pair (d := d - 1) _ _) rfl rfl (by omega) rfl dX11_may_81 ?_
                refine z_iand dX11_may_84 ?_
                refine z_if_eq (tgt := 92) dX11_may_85 (by decide) (fun c85 => ?_) (fun c85 => ?_)
                · show zS _ _ _ _ _ _ _ 92 _ _ _ _ _
                  refine z_iconst (v := 0) dX11_may_92 (by decide) ?_
                  refine z_iret dX11_may_93 rfl ?_
                  show zCy _ _ _ _ (some (.int (if _ then (0 : Int32) else 1))) _ _ _ _ _ _ _ _ _ _ _
                  rw [if_pos c85]
                  exact ⟨rfl, rfl, rfl, by omega, by omega, w9, k9, b9⟩
                · show zS _ _ _ _ _ _ _ 88 _ _ _ _ _
                  refine z_iconst (v := 1) dX11_may_88 (by decide) ?_
                  refine z_goto (tgt := 93) dX11_may_89 (by decide) ?_
                  show zS _ _ _ _ _ _ _ 93 _ _ _ _ _
                  refine z_iret dX11_may_93 rfl ?_
                  show zCy _ _ _ _ (some (.int (if _ then (0 : Int32) else 1))) _ _ _ _ _ _ _ _ _ _ _
                  rw [if_neg c85]
                  exact ⟨rfl, rfl, rfl, by omega, by omega, w9, k9, b9⟩
              · show zS _ _ _ _ _ _ _ 61 _ _ _ _ _
                rw [bmay_n hgd ((if_neg c2).trans c58)]
                refine z_bipush (v := (-2)) dX11_may_61 (by decide) ?_
                refine z_iret dX11_may_63 rfl ?_
                exact ⟨rfl, rfl, rfl, by omega, by omega, hw, zLe.rf, hW⟩
            · exact absurd c32 c2
          · show zS _ _ _ _ _ _ _ 28 _ _ _ _ _
            refine z_iconst (v := (-1)) dX11_may_28 (by decide) ?_
            refine z_iret dX11_may_29 rfl ?_
            rw [bmay_b (fun q => absurd q.2.2.2 (by first | exact c25 | (intro q2; exact c25 q2)))]
            exact ⟨rfl, rfl, rfl, by omega, by omega, hw, zLe.rf, hW⟩
/-- the fuel of a look-up of a variable: more than there are bindings -/
def bK : Nat := 1201
def brun : Nat → bSt → bSt
  | 0, S => S
  | j + 1, S => if S.2.2.2 17 2 = 1 then brun j (bstep S.1 S.2.1 S.2.2.1 S.2.2.2 bK (tn (S.2.2.2 19 1))) else S
/-- what the walk of each step needs -/
def brunV (b0 c : Nat) : Nat → bSt → Prop
  | 0, _ => True
  | j + 1, S => S.2.2.2 17 2 = 1 → (iv 101 (S.2.2.2 19 1) ∧ iv 61 (S.2.2.2 17 11) ∧ bstepV b0 S.1 S.2.1 S.2.2.1 S.2.2.2 c bK (tn (S.2.2.2 19 1))) ∧ brunV b0 c j (bstep S.1 S.2.1 S.2.2.1 S.2.2.2 bK (tn (S.2.2.2 19 1)))
/-- the slots that the steps cost -/
def brunc : Nat → bSt → Nat
  | 0, _ => 0
  | j + 1, S => if S.2.2.2 17 2 = 1 then bstepc S.1 S.2.1 S.2.2.1 S.2.2.2 (tn (S.2.2.2 19 1)) + brunc j (bstep S.1 S.2.1 S.2.2.1 S.2.2.2 bK (tn (S.2.2.2 19 1))) else 0
/-- the cells that the steps make -/
def brunk : Nat → bSt → Nat
  | 0, _ => 0
  | j + 1, S => if S.2.2.2 17 2 = 1 then min 4 (bstepc S.1 S.2.1 S.2.2.1 S.2.2.2 (tn (S.2.2.2 19 1)) / 5) + brunk j (bstep S.1 S.2.1 S.2.2.1 S.2.2.2 bK (tn (S.2.2.2 19 1))) else 0
theorem brun_CF {c : Nat} : ∀ (j : Nat) (S : bSt), CF c S.2.1 → CF c (brun j S).2.1 := by
  intro j
  induction j with
  | zero => intro S h; exact h
  | succ j ih =>
    intro S h
    unfold brun
    split
    · exact ih _ h.step
    · exact h
set_option maxRecDepth 20000 in
set_option maxHeartbeats 400000 in
theorem Bl_X11_run {l : Launch} {d : Nat} {D : zD} {b0 : Nat} {g : zG}  {c : Nat} (n : Nat) (hn : n ≤ 200) (hd : 7 ≤ d) (S1 : bSt) (c1 c2 : Nat) : ∀ (j k : Nat) (G : zG) (R : zRf) (f C : zI) (cs ns : Nat), k + j = n → brun j (G, R, f, C) = S1 → brunV b0 c j (G, R, f, C) → CW b0 G c → CF c R → zOK b0 zNo (gv c G R) → zLe g G → cs + brunk j (G, R, f, C) ≤ c1 → ns + brunc j (G, R, f, C) ≤ c2 → zS l d D b0 mX11_run cs ns 30 [some (.ref (c + 0)), some (.int (nI n)), some (.int (nI k))] [] (gv c G R) (cv c f C) (zq D b0 (zCy b0 zNo c g (some (.int (S1.2.2.2 17 2))) S1.1 S1.2.1 S1.2.2.1 S1.2.2.2 c1 c2)) := by
  intro j
  induction j with
  | zero =>
    intro k G R f C cs ns hk hq hV hW hF hw hle hcs hns
    obtain rfl : k = n := hk
    subst hq
    show zS _ _ _ _ _ _ _ 30 _ _ _ _ _
    refine z_iload2 dX11_run_30 ?_
    refine z_iload1 dX11_run_31 ?_
    refine z_icmp_ge (tgt := 59) dX11_run_32 (by decide) (fun c32 => ?_) (fun c32 => ?_)
    · show zS _ _ _ _ _ _ _ 59 _ _ _ _ _
      refine z_aload0 dX11_run_59 ?_
      refine zc_getF (j := 0) hW fl_RX11_34 rfl (by decide) (hF _ (List.mem_of_getElem? (i := 3) rfl)) dX11_run_60 ?_
      refine zc_getI (j := 17) hW fl_RX11_82 rfl dX11_run_63 ?_
      refine z_iret dX11_run_66 rfl ?_
      exact ⟨rfl, rfl, rfl, by omega, by omega, hw, hle, hW⟩
    · exact absurd c32 (nI_nlt (Nat.le_refl _) (by omega))
  | succ j ih =>
    intro k G R f C cs ns hk hq hV hW hF hw hle hcs hns
    show zS _ _ _ _ _ _ _ 30 _ _ _ _ _
    refine z_iload2 dX11_run_30 ?_
    refine z_iload1 dX11_run_31 ?_
    refine z_icmp_ge (tgt := 59) dX11_run_32 (by decide) (fun c32 => ?_) (fun c32 => ?_)
    · exact absurd (nI_lt (by omega) (by omega)) c32
    · show zS _ _ _ _ _ _ _ 35 _ _ _ _ _
      refine z_aload0 dX11_run_35 ?_
      refine zc_getF (j := 0) hW fl_RX11_34 rfl (by decide) (hF _ (List.mem_of_getElem? (i := 3) rfl)) dX11_run_36 ?_
      refine zc_getI (j := 17) hW fl_RX11_82 rfl dX11_run_39 ?_
      refine z_iconst (v := 1) dX11_run_42 (by decide) ?_
      refine z_icmp_ne (tgt := 59) dX11_run_43 (by decide) (fun c43 => ?_) (fun c43 => ?_)
      · show zS _ _ _ _ _ _ _ 59 _ _ _ _ _
        have hg : ¬ C 17 2 = 1 := c43
        have e1 : brun (j + 1) (G, R, f, C) = (G, R, f, C) := if_neg hg
        rw [e1] at hq
        subst hq
        refine z_aload0 dX11_run_59 ?_
        refine zc_getF (j := 0) hW fl_RX11_34 rfl (by decide) (hF _ (List.mem_of_getElem? (i := 3) rfl)) dX11_run_60 ?_
        refine zc_getI (j := 17) hW fl_RX11_82 rfl dX11_run_63 ?_
        refine z_iret dX11_run_66 rfl ?_
        exact ⟨rfl, rfl, rfl, by omega, by omega, hw, hle, hW⟩
      · show zS _ _ _ _ _ _ _ 46 _ _ _ _ _
        have hg : C 17 2 = 1 := by first | exact c43 | exact Classical.not_not.mp c43
        have hV2 := hV hg
        have htn : iv 101 (C 19 1) := hV2.1.1
        refine z_aload0 dX11_run_46 ?_
        refine zc_getF (j := 0) hW fl_RX11_34 rfl (by decide) (hF _ (List.mem_of_getElem? (i := 3) rfl)) dX11_run_47 ?_
        refine z_callV zmd_X8_step rfl (by decide) zl_RX11_100 zin_X8_step zsel_X8_step (B_X8_step (d := d - 1) hW hF hw bK (tn (C 19 1)) htn.2 (by have := htn.1; omega) hV2.1.2.1 hV2.1.2.2 (by omega)) (hW.i 17 rfl) rfl rfl (by omega) rfl dX11_run_50 (fun r1 g1 f1 mc1 ms1 q1 => ?_)
        obtain ⟨rfl, rfl, rfl, hc1, hs1, w1, k1, b1⟩ := q1
        have e1 : brun (j + 1) (G, R, f, C) = brun j (bstep G R f C bK (tn (C 19 1))) := if_pos hg
        have e2 : brunc (j + 1) (G, R, f, C) = bstepc G R f C (tn (C 19 1)) + brunc j (bstep G R f C bK (tn (C 19 1))) := if_pos hg
        have e3 : brunk (j + 1) (G, R, f, C) = min 4 (bstepc G R f C (tn (C 19 1)) / 5) + brunk j (bstep G R f C bK (tn (C 19 1))) := if_pos hg
        refine z_iinc2 (y := 1) dX11_run_53 (by decide) ?_
        refine z_goto (tgt := 30) dX11_run_56 (by decide) ?_
        rw [nI_1]
        exact ih (k + 1) _ _ _ _ _ _ (by omega) (e1.symm.trans hq) hV2.2 b1 (hF.step) w1 (hle.tr k1) (by rw [e3] at hcs; have : (brunk j ((bstep G R f C bK (tn (C 19 1))).1, (bstep G R f C bK (tn (C 19 1))).2.1, (bstep G R f C bK (tn (C 19 1))).2.2.1, (bstep G R f C bK (tn (C 19 1))).2.2.2)) = brunk j (bstep G R f C bK (tn (C 19 1))) := rfl; omega) (by rw [e2] at hns; have : (brunc j ((bstep G R f C bK (tn (C 19 1))).1, (bstep G R f C bK (tn (C 19 1))).2.1, (bstep G R f C bK (tn (C 19 1))).2.2.1, (bstep G R f C bK (tn (C 19 1))).2.2.2)) = brunc j (bstep G R f C bK (tn (C 19 1))) := rfl; omega)
def brunM (g : zG) (R : zRf) (f C : zI) (x : Int32) : bSt × Int32 := if x < 1 ∨ 200 < x then ((g, R, f, C), -1) else if C 17 2 = 1 then (brun (tn x) (g, R, f, C), (brun (tn x) (g, R, f, C)).2.2.2 17 2) else ((g, R, f, C), -2)
theorem brunM_b {g : zG} {R : zRf} {f C : zI} {x : Int32} (h : x < 1 ∨ 200 < x) : brunM g R f C x = ((g, R, f, C), -1) := if_pos h
theorem brunM_s {g : zG} {R : zRf} {f C : zI} {x : Int32} (h : ¬ (x < 1 ∨ 200 < x)) (h2 : ¬ C 17 2 = 1) : brunM g R f C x = ((g, R, f, C), -2) := (if_neg h).trans (if_neg h2)
theorem brunM_r {g : zG} {R : zRf} {f C : zI} {x : Int32} (h : ¬ (x < 1 ∨ 200 < x)) (h2 : C 17 2 = 1) : brunM g R f C x = (brun (tn x) (g, R, f, C), (brun (tn x) (g, R, f, C)).2.2.2 17 2) := (if_neg h).trans (if_pos h2)
theorem iv201 {x : Int32} (h : ¬ (x < 1 ∨ 200 < x)) : iv 201 x := by
  have h0 : ¬ x < 0 := fun q => h (Or.inl (Int32.lt_trans q (by decide)))
  obtain ⟨q, h1, rfl⟩ := nI_of h0
  have h2 : ¬ nI 200 < nI q := fun q2 => h (Or.inr q2)
  refine iv_nI ?_ (by decide)
  rcases Nat.lt_or_ge q 201 with q3 | q3
  · exact q3
  · exact absurd (nI_lt (a := 200) (by omega) h1) h2
set_option maxRecDepth 20000 in
set_option maxHeartbeats 400000 in
theorem B_X11_run {l : Launch} {d : Nat} {D : zD} {b0 : Nat} {g : zG} {f C : zI} {R : zRf} {c : Nat} (hW : CW b0 g c) (hF : CF c R) (hw : zOK b0 zNo (gv c g R)) (x : Int32) (hV : ¬ (x < 1 ∨ 200 < x) → C 17 2 = 1 → brunV b0 c (tn x) (g, R, f, C)) (hd : 7 ≤ d) : zM l d D b0 mX11_run [.ref (c + 0), .int x] (gv c g R) (cv c f C) (zCy b0 zNo c g (some (.int (brunM g R f C x).2)) (brunM g R f C x).1.1 (brunM g R f C x).1.2.1 (brunM g R f C x).1.2.2.1 (brunM g R f C x).1.2.2.2 (brunk (tn x) (g, R, f, C)) (brunc (tn x) (g, R, f, C))) := by
  refine zM.start zmd_X11_run (Nat.le_of_ble_eq_true rfl) ⟨rfl, rfl, trivial⟩ [some (.ref (c + 0)), some (.int x), none] rfl ?_
  refine z_iload1 dX11_run_0 ?_
  refine z_iconst (v := 1) dX11_run_1 (by decide) ?_
  refine z_icmp_lt (tgt := 12) dX11_run_2 (by decide) (fun c2 => ?_) (fun c2 => ?_)
  · show zS _ _ _ _ _ _ _ 12 _ _ _ _ _
    rw [brunM_b (Or.inl c2)]
    refine z_iconst (v := (-1)) dX11_run_12 (by decide) ?_
    refine z_iret dX11_run_13 rfl ?_
    exact ⟨rfl, rfl, rfl, by omega, by omega, hw, zLe.rf, hW⟩
  · show zS _ _ _ _ _ _ _ 5 _ _ _ _ _
    refine z_iload1 dX11_run_5 ?_
    refine z_sipush (v := 200) dX11_run_6 (by decide) ?_
    refine z_icmp_le (tgt := 14) dX11_run_9 (by decide) (fun c9 => ?_) (fun c9 => ?_)
    · show zS _ _ _ _ _ _ _ 14 _ _ _ _ _
      have hx : ¬ (x < 1 ∨ 200 < x) := fun q => q.elim c2 (by first | exact c9 | (intro q2; exact c9 q2))
      refine z_aload0 dX11_run_14 ?_
      refine zc_getF (j := 0) hW fl_RX11_34 rfl (by decide) (hF _ (List.mem_of_getElem? (i := 3) rfl)) dX11_run_15 ?_
      refine zc_getI (j := 17) hW fl_RX11_82 rfl dX11_run_18 ?_
      refine z_iconst (v := 1) dX11_run_21 (by decide) ?_
      refine z_icmp_eq (tgt := 28) dX11_run_22 (by decide) (fun c22 => ?_) (fun c22 => ?_)
      · show zS _ _ _ _ _ _ _ 28 _ _ _ _ _
        rw [brunM_r hx c22]
        refine z_iconst (v := 0) dX11_run_28 (by decide) ?_
        refine z_istore2 dX11_run_29 ?_
        have hxi := iv201 hx
        have hx2 := hxi.2
        have hx3 : tn x ≤ 200 := by have := hxi.1; omega
        generalize tn x = n at hx2 hx3 hV ⊢
        subst hx2
        exact Bl_X11_run n hx3 hd _ _ _ n 0 _ _ _ _ _ _ (by omega) rfl (hV hx c22) hW hF hw zLe.rf (by omega) (by omega)
      · show zS _ _ _ _ _ _ _ 25 _ _ _ _ _
        rw [brunM_s hx c22]
        refine z_bipush (v := (-2)) dX11_run_25 (by decide) ?_
        refine z_iret dX11_run_27 rfl ?_
        exact ⟨rfl, rfl, rfl, by omega, by omega, hw, zLe.rf, hW⟩
    · show zS _ _ _ _ _ _ _ 12 _ _ _ _ _
      rw [brunM_b (Or.inr (by first | exact c9 | exact Classical.not_not.mp c9))]
      refine z_iconst (v := (-1)) dX11_run_12 (by decide) ?_
      refine z_iret dX11_run_13 rfl ?_
      exact ⟨rfl, rfl, rfl, by omega, by omega, hw, zLe.rf, hW⟩
def banswer (R : zRf) (C : zI) (v : Int32) : Int32 × zRf × zI := if C 17 2 = 3 then (bend (zup (zup C 17 6 v) 17 2 1) (zup R 17 4 none) 19 1, zup R 17 4 none, bend (zup (zup C 17 6 v) 17 2 1) (zup R 17 4 none)) else (-2, R, C)
theorem banswer_t {R : zRf} {C : zI} {v : Int32} (h : C 17 2 = 3) : banswer R C v = (bend (zup (zup C 17 6 v) 17 2 1) (zup R 17 4 none) 19 1, zup R 17 4 none, bend (zup (zup C 17 6 v) 17 2 1) (zup R 17 4 none)) := if_pos h
theorem banswer_f {R : zRf} {C : zI} {v : Int32} (h : ¬ C 17 2 = 3) : banswer R C v = (-2, R, C) := if_neg h
set_option maxRecDepth 20000 in
set_option maxHeartbeats 400000 in
theorem B_X11_answer {l : Launch} {d : Nat} {D : zD} {b0 : Nat} {g : zG} {f C : zI} {R : zRf} {c : Nat} (hW : CW b0 g c) (hF : CF c R) (hw : zOK b0 zNo (gv c g R)) (v : Int32) (hd : 2 ≤ d) : zM l d D b0 mX11_answer [.ref (c + 0), .int v] (gv c g R) (cv c f C) (zCy b0 zNo c g (some (.int (banswer R C v).1)) g (banswer R C v).2.1 f (banswer R C v).2.2 0 0) := by
  refine zM.start zmd_X11_answer (Nat.le_of_ble_eq_true rfl) ⟨rfl, rfl, trivial⟩ [some (.ref (c + 0)), some (.int v)] rfl ?_
  refine z_aload0 dX11_answer_0 ?_
  refine zc_getF (j := 0) hW fl_RX11_34 rfl (by decide) (hF _ (List.mem_of_getElem? (i := 3) rfl)) dX11_answer_1 ?_
  refine zc_getI (j := 17) hW fl_RX11_82 rfl dX11_answer_4 ?_
  refine z_iconst (v := 3) dX11_answer_7 (by decide) ?_
  refine z_icmp_eq (tgt := 14) dX11_answer_8 (by decide) (fun c8 => ?_) (fun c8 => ?_)
  · show zS _ _ _ _ _ _ _ 14 _ _ _ _ _
    rw [banswer_t c8]
    refine z_aload0 dX11_answer_14 ?_
    refine zc_getF (j := 0) hW fl_RX11_34 rfl (by decide) (hF _ (List.mem_of_getElem? (i := 3) rfl)) dX11_answer_15 ?_
    refine z_iload1 dX11_answer_18 ?_
    refine z_callV zmd_X8_goOnWith rfl (by decide) zl_RX11_103 zin_X8_goOnWith zsel_X8_goOnWith (B_X8_goOnWith (d := d - 1) hW hF hw _ (by omega)) (hW.i 17 rfl) rfl rfl (by omega) rfl dX11_answer_19 (fun r1 g1 f1 mc1 ms1 q1 => ?_)
    obtain ⟨rfl, rfl, rfl, hc1, hs1, w1, k1, b1⟩ := q1
    refine z_aload0 dX11_answer_22 ?_
    refine zc_getF (j := 0) b1 fl_RX11_34 rfl (by decide) ((hF.gow) _ (List.mem_of_getElem? (i := 3) rfl)) dX11_answer_23 ?_
    refine zc_getF (j := 17) b1 fl_RX11_107 rfl (by decide) ((hF.gow) _ (List.mem_of_getElem? (i := 19) rfl)) dX11_answer_26 ?_
    refine zc_getI (j := 19) b1 fl_RX11_111 rfl dX11_answer_29 ?_
    refine z_iret dX11_answer_32 rfl ?_
    exact ⟨rfl, rfl, rfl, by omega, by omega, w1, k1, b1⟩
  · show zS _ _ _ _ _ _ _ 11 _ _ _ _ _
    rw [banswer_f c8]
    refine z_bipush (v := (-2)) dX11_answer_11 (by decide) ?_
    refine z_iret dX11_answer_13 rfl ?_
    exact ⟨rfl, rfl, rfl, by omega, by omega, hw, zLe.rf, hW⟩
def bdrop (g : zG) (R : zRf) (f C : zI) (v : Int32) (dp : Nat) : bSt × Int32 :=
  if C 17 2 = 3 then (((bcap g R f C 0 (dp - 0)).1, zup (bcap g R f C 0 (dp - 0)).2.1 17 4 none, (bcap g R f C 0 (dp - 0)).2.2.1, bend (zup (zup (bcap g R f C 0 (dp - 0)).2.2.2 17 6 v) 17 2 1) (zup (bcap g R f C 0 (dp - 0)).2.1 17 4 none)), C 19 1) else ((g, R, f, C), -2)
theorem bdrop_t {g : zG} {R : zRf} {f C : zI} {v : Int32} {dp : Nat} (h : C 17 2 = 3) : bdrop g R f C v dp = (((bcap g R f C 0 (dp - 0)).1, zup (bcap g R f C 0 (dp - 0)).2.1 17 4 none, (bcap g R f C 0 (dp - 0)).2.2.1, bend (zup (zup (bcap g R f C 0 (dp - 0)).2.2.2 17 6 v) 17 2 1) (zup (bcap g R f C 0 (dp - 0)).2.1 17 4 none)), C 19 1) := if_pos h
theorem bdrop_f {g : zG} {R : zRf} {f C : zI} {v : Int32} {dp : Nat} (h : ¬ C 17 2 = 3) : bdrop g R f C v dp = ((g, R, f, C), -2) := if_neg h
set_option maxRecDepth 20000 in
set_option maxHeartbeats 400000 in
theorem B_X11_drop {l : Launch} {d : Nat} {D : zD} {b0 : Nat} {g : zG} {f C : zI} {R : zRf} {c : Nat} (hW : CW b0 g c) (hF : CF c R) (hw : zOK b0 zNo (gv c g R)) (v : Int32) (dp : Nat) (hdp : C 19 1 = nI dp) (h100 : dp ≤ 100) (hd : 4 ≤ d) : zM l d D b0 mX11_drop [.ref (c + 0), .int v] (gv c g R) (cv c f C) (zCy b0 zNo c g (some (.int (bdrop g R f C v dp).2)) (bdrop g R f C v dp).1.1 (bdrop g R f C v dp).1.2.1 (bdrop g R f C v dp).1.2.2.1 (bdrop g R f C v dp).1.2.2.2 3 107) := by
  refine zM.start zmd_X11_drop (Nat.le_of_ble_eq_true rfl) ⟨rfl, rfl, trivial⟩ [some (.ref (c + 0)), some (.int v), none] rfl ?_
  refine z_aload0 dX11_drop_0 ?_
  refine zc_getF (j := 0) hW fl_RX11_34 rfl (by decide) (hF _ (List.mem_of_getElem? (i := 3) rfl)) dX11_drop_1 ?_
  refine zc_getI (j := 17) hW fl_RX11_82 rfl dX11_drop_4 ?_
  refine z_iconst (v := 3) dX11_drop_7 (by decide) ?_
  refine z_icmp_eq (tgt := 14) dX11_drop_8 (by decide) (fun c8 => ?_) (fun c8 => ?_)
  · show zS _ _ _ _ _ _ _ 14 _ _ _ _ _
    rw [bdrop_t c8]
    refine z_aload0 dX11_drop_14 ?_
    refine zc_getF (j := 0) hW fl_RX11_34 rfl (by decide) (hF _ (List.mem_of_getElem? (i := 3) rfl)) dX11_drop_15 ?_
    refine zc_getF (j := 17) hW fl_RX11_107 rfl (by decide) (hF _ (List.mem_of_getElem? (i := 19) rfl)) dX11_drop_18 ?_
    refine zc_getI (j := 19) hW fl_RX11_111 rfl dX11_drop_21 ?_
    refine z_istore2 dX11_drop_24 ?_
    refine z_aload0 dX11_drop_25 ?_
    refine zc_getF (j := 0) hW fl_RX11_34 rfl (by decide) (hF _ (List.mem_of_getElem? (i := 3) rfl)) dX11_drop_26 ?_
    refine z_iconst (v := 0) dX11_drop_29 (by decide) ?_
    refine z_callV zmd_X8_captureDownTo rfl (by decide) zl_RX11_116 zin_X8_captureDownTo zsel_X8_captureDownTo (B_X8_captureDownTo (d := d - 1) hW hF hw 0 dp hdp (Nat.zero_le _) h100 (by decide) (by omega)) (hW.i 17 rfl) rfl rfl (by omega) rfl dX11_drop_30 (fun r1 g1 f1 mc1 ms1 q1 => ?_)
    obtain ⟨rfl, rfl, rfl, hc1, hs1, w1, k1, b1⟩ := q1
    refine z_pop dX11_drop_33 ?_
    refine z_aload0 dX11_drop_34 ?_
    show zS _ _ _ _ _ _ _ 35 _ _ _ _ _
    refine zc_getF (j := 0) b1 fl_RX11_34 rfl (by decide) ((hF.cap) _ (List.mem_of_getElem? (i := 3) rfl)) dX11_drop_35 ?_
    refine z_iload1 dX11_drop_38 ?_
    refine z_callV zmd_X8_goOnWith rfl (by decide) zl_RX11_103 zin_X8_goOnWith zsel_X8_goOnWith (B_X8_goOnWith (d := d - 1) b1 (hF.cap) w1 _ (by omega)) (b1.i 17 rfl) rfl rfl (by omega) rfl dX11_drop_39 (fun r2 g2 f2 mc2 ms2 q2 => ?_)
    obtain ⟨rfl, rfl, rfl, hc2, hs2, w2, k2, b2⟩ := q2
    refine z_iload2 dX11_drop_42 ?_
    refine z_iret dX11_drop_43 rfl ?_
    exact ⟨rfl, rfl, rfl, by omega, by omega, w2, (k1.tr k2), b2⟩
  · show zS _ _ _ _ _ _ _ 11 _ _ _ _ _
    rw [bdrop_f c8]
    refine z_bipush (v := (-2)) dX11_drop_11 (by decide) ?_
    refine z_iret dX11_drop_13 rfl ?_
    exact ⟨rfl, rfl, rfl, by omega, by omega, hw, zLe.rf, hW⟩
def btold (R : zRf) (C : zI) (x : Int32) : Int32 := if x = 0 then (C 17 2) else if x = 1 then (C 17 3) else if x = 2 then (C 19 1) else if x = 3 then (C 19 2) else if x = 4 then (C 17 11) else if x = 5 then (bcntP C) else if x = 6 then (C 21 1) else if x = 7 then (C 21 2) else if x = 8 then (C 21 3) else if x = 9 then (C 21 6) else if x = 10 then (if C 17 2 = 3 then C 17 7 else -9) else if x = 11 then (C 0 1) else if x = 12 then (bcdA R 4 0 0) else -1
theorem btold_0 {R : zRf} {C : zI} {x : Int32} (h : x = 0) : btold R C x = (C 17 2) := if_pos h
theorem btold_1 {R : zRf} {C : zI} {x : Int32} (h : x = 1) : btold R C x = (C 17 3) := (if_neg (by rw [h]; decide)).trans (if_pos h)
theorem btold_2 {R : zRf} {C : zI} {x : Int32} (h : x = 2) : btold R C x = (C 19 1) := (if_neg (by rw [h]; decide)).trans ((if_neg (by rw [h]; decide)).trans (if_pos h))
theorem btold_3 {R : zRf} {C : zI} {x : Int32} (h : x = 3) : btold R C x = (C 19 2) := (if_neg (by rw [h]; decide)).trans ((if_neg (by rw [h]; decide)).trans ((if_neg (by rw [h]; decide)).trans (if_pos h)))
theorem btold_4 {R : zRf} {C : zI} {x : Int32} (h : x = 4) : btold R C x = (C 17 11) := (if_neg (by rw [h]; decide)).trans ((if_neg (by rw [h]; decide)).trans ((if_neg (by rw [h]; decide)).trans ((if_neg (by rw [h]; decide)).trans (if_pos h))))
theorem btold_5 {R : zRf} {C : zI} {x : Int32} (h : x = 5) : btold R C x = (bcntP C) := (if_neg (by rw [h]; decide)).trans ((if_neg (by rw [h]; decide)).trans ((if_neg (by rw [h]; decide)).trans ((if_neg (by rw [h]; decide)).trans ((if_neg (by rw [h]; decide)).trans (if_pos h)))))
theorem btold_6 {R : zRf} {C : zI} {x : Int32} (h : x = 6) : btold R C x = (C 21 1) := (if_neg (by rw [h]; decide)).trans ((if_neg (by rw [h]; decide)).trans ((if_neg (by rw [h]; decide)).trans ((if_neg (by rw [h]; decide)).trans ((if_neg (by rw [h]; decide)).trans ((if_neg (by rw [h]; decide)).trans (if_pos h))))))
theorem btold_7 {R : zRf} {C : zI} {x : Int32} (h : x = 7) : btold R C x = (C 21 2) := (if_neg (by rw [h]; decide)).trans ((if_neg (by rw [h]; decide)).trans ((if_neg (by rw [h]; decide)).trans ((if_neg (by rw [h]; decide)).trans ((if_neg (by rw [h]; decide)).trans ((if_neg (by rw [h]; decide)).trans ((if_neg (by rw [h]; decide)).trans (if_pos h)))))))
theorem btold_8 {R : zRf} {C : zI} {x : Int32} (h : x = 8) : btold R C x = (C 21 3) := (if_neg (by rw [h]; decide)).trans ((if_neg (by rw [h]; decide)).trans ((if_neg (by rw [h]; decide)).trans ((if_neg (by rw [h]; decide)).trans ((if_neg (by rw [h]; decide)).trans ((if_neg (by rw [h]; decide)).trans ((if_neg (by rw [h]; decide)).trans ((if_neg (by rw [h]; decide)).trans (if_pos h))))))))
theorem btold_9 {R : zRf} {C : zI} {x : Int32} (h : x = 9) : btold R C x = (C 21 6) := (if_neg (by rw [h]; decide)).trans ((if_neg (by rw [h]; decide)).trans ((if_neg (by rw [h]; decide)).trans ((if_neg (by rw [h]; decide)).trans ((if_neg (by rw [h]; decide)).trans ((if_neg (by rw [h]; decide)).trans ((if_neg (by rw [h]; decide)).trans ((if_neg (by rw [h]; decide)).trans ((if_neg (by rw [h]; decide)).trans (if_pos h)))))))))
theorem btold_10 {R : zRf} {C : zI} {x : Int32} (h : x = 10) : btold R C x = (if C 17 2 = 3 then C 17 7 else -9) := (if_neg (by rw [h]; decide)).trans ((if_neg (by rw [h]; decide)).trans ((if_neg (by rw [h]; decide)).trans ((if_neg (by rw [h]; decide)).trans ((if_neg (by rw [h]; decide)).trans ((if_neg (by rw [h]; decide)).trans ((if_neg (by rw [h]; decide)).trans ((if_neg (by rw [h]; decide)).trans ((if_neg (by rw [h]; decide)).trans ((if_neg (by rw [h]; decide)).trans (if_pos h))))))))))
theorem btold_11 {R : zRf} {C : zI} {x : Int32} (h : x = 11) : btold R C x = (C 0 1) := (if_neg (by rw [h]; decide)).trans ((if_neg (by rw [h]; decide)).trans ((if_neg (by rw [h]; decide)).trans ((if_neg (by rw [h]; decide)).trans ((if_neg (by rw [h]; decide)).trans ((if_neg (by rw [h]; decide)).trans ((if_neg (by rw [h]; decide)).trans ((if_neg (by rw [h]; decide)).trans ((if_neg (by rw [h]; decide)).trans ((if_neg (by rw [h]; decide)).trans ((if_neg (by rw [h]; decide)).trans (if_pos h)))))))))))
theorem btold_12 {R : zRf} {C : zI} {x : Int32} (h : x = 12) : btold R C x = (bcdA R 4 0 0) := (if_neg (by rw [h]; decide)).trans ((if_neg (by rw [h]; decide)).trans ((if_neg (by rw [h]; decide)).trans ((if_neg (by rw [h]; decide)).trans ((if_neg (by rw [h]; decide)).trans ((if_neg (by rw [h]; decide)).trans ((if_neg (by rw [h]; decide)).trans ((if_neg (by rw [h]; decide)).trans ((if_neg (by rw [h]; decide)).trans ((if_neg (by rw [h]; decide)).trans ((if_neg (by rw [h]; decide)).trans ((if_neg (by rw [h]; decide)).trans (if_pos h))))))))))))
theorem btold_d {R : zRf} {C : zI} {x : Int32} (h0 : ¬ x = 0) (h1 : ¬ x = 1) (h2 : ¬ x = 2) (h3 : ¬ x = 3) (h4 : ¬ x = 4) (h5 : ¬ x = 5) (h6 : ¬ x = 6) (h7 : ¬ x = 7) (h8 : ¬ x = 8) (h9 : ¬ x = 9) (h10 : ¬ x = 10) (h11 : ¬ x = 11) (h12 : ¬ x = 12) : btold R C x = -1 := by
  unfold btold
  rw [if_neg h0, if_neg h1, if_neg h2, if_neg h3, if_neg h4, if_neg h5, if_neg h6, if_neg h7, if_neg h8, if_neg h9, if_neg h10, if_neg h11, if_neg h12]
set_option maxRecDepth 20000 in
set_option maxHeartbeats 400000 in
theorem B_X11_told {l : Launch} {d : Nat} {D : zD} {b0 : Nat} {g : zG} {f C : zI} {R : zRf} {c : Nat} (hW : CW b0 g c) (hF : CF c R) (hw : zOK b0 zNo (gv c g R)) (x : Int32) (hd : 2 ≤ d) : zM l d D b0 mX11_told [.ref (c + 0), .int x] (gv c g R) (cv c f C) (zEx (some (.int (btold R C x))) (gv c g R) (cv c f C)) := by
  refine zM.start zmd_X11_told (Nat.le_of_ble_eq_true rfl) ⟨rfl, rfl, trivial⟩ [some (.ref (c + 0)), some (.int x)] rfl ?_
  refine z_iload1 dX11_told_0 ?_
  refine z_tab dX11_told_1 (by decide +kernel) (by decide +kernel) ?_
  refine ⟨fun c1_0 => ?_, fun nc1_0 => ?_⟩
  · show zS _ _ _ _ _ _ _ 68 _ _ _ _ _
    rw [btold_0 c1_0]
    refine z_aload0 dX11_told_68 ?_
    refine zc_getF (j := 0) hW fl_RX11_34 rfl (by decide) (hF _ (List.mem_of_getElem? (i := 3) rfl)) dX11_told_69 ?_
    refine zc_getI (j := 17) hW fl_RX11_82 rfl dX11_told_72 ?_
    refine z_iret dX11_told_75 rfl ?_
    exact ⟨rfl, rfl, rfl, rfl, rfl⟩
  refine ⟨fun c1_1 => ?_, fun nc1_1 => ?_⟩
  · show zS _ _ _ _ _ _ _ 76 _ _ _ _ _
    rw [btold_1 c1_1]
    refine z_aload0 dX11_told_76 ?_
    refine zc_getF (j := 0) hW fl_RX11_34 rfl (by decide) (hF _ (List.mem_of_getElem? (i := 3) rfl)) dX11_told_77 ?_
    refine zc_getI (j := 17) hW fl_RX11_120 rfl dX11_told_80 ?_
    refine z_iret dX11_told_83 rfl ?_
    exact ⟨rfl, rfl, rfl, rfl, rfl⟩
  refine ⟨fun c1_2 => ?_, fun nc1_2 => ?_⟩
  · show zS _ _ _ _ _ _ _ 84 _ _ _ _ _
    rw [btold_2 c1_2]
    refine z_aload0 dX11_told_84 ?_
    refine zc_getF (j := 0) hW fl_RX11_34 rfl (by decide) (hF _ (List.mem_of_getElem? (i := 3) rfl)) dX11_told_85 ?_
    refine zc_getF (j := 17) hW fl_RX11_107 rfl (by decide) (hF _ (List.mem_of_getElem? (i := 19) rfl)) dX11_told_88 ?_
    refine zc_getI (j := 19) hW fl_RX11_111 rfl dX11_told_91 ?_
    refine z_iret dX11_told_94 rfl ?_
    exact ⟨rfl, rfl, rfl, rfl, rfl⟩
  refine ⟨fun c1_3 => ?_, fun nc1_3 => ?_⟩
  · show zS _ _ _ _ _ _ _ 95 _ _ _ _ _
    rw [btold_3 c1_3]
    refine z_aload0 dX11_told_95 ?_
    refine zc_getF (j := 0) hW fl_RX11_34 rfl (by decide) (hF _ (List.mem_of_getElem? (i := 3) rfl)) dX11_told_96 ?_
    refine zc_getF (j := 17) hW fl_RX11_107 rfl (by decide) (hF _ (List.mem_of_getElem? (i := 19) rfl)) dX11_told_99 ?_
    refine zc_getI (j := 19) hW fl_RX11_123 rfl dX11_told_102 ?_
    refine z_iret dX11_told_105 rfl ?_
    exact ⟨rfl, rfl, rfl, rfl, rfl⟩
  refine ⟨fun c1_4 => ?_, fun nc1_4 => ?_⟩
  · show zS _ _ _ _ _ _ _ 106 _ _ _ _ _
    rw [btold_4 c1_4]
    refine z_aload0 dX11_told_106 ?_
    refine zc_getF (j := 0) hW fl_RX11_34 rfl (by decide) (hF _ (List.mem_of_getElem? (i := 3) rfl)) dX11_told_107 ?_
    refine zc_getI (j := 17) hW fl_RX11_126 rfl dX11_told_110 ?_
    refine z_iret dX11_told_113 rfl ?_
    exact ⟨rfl, rfl, rfl, rfl, rfl⟩
  refine ⟨fun c1_5 => ?_, fun nc1_5 => ?_⟩
  · show zS _ _ _ _ _ _ _ 114 _ _ _ _ _
    rw [btold_5 c1_5]
    refine z_aload0 dX11_told_114 ?_
    refine zc_getF (j := 0) hW fl_RX11_34 rfl (by decide) (hF _ (List.mem_of_getElem? (i := 3) rfl)) dX11_told_115 ?_
    refine z_callVi zmd_X8_countPerformed rfl (by decide) zl_RX11_129 zin_X8_countPerformed zsel_X8_countPerformed (B_X8_countPerformed (d := d - 1) hW hF hw ) (hW.i 17 rfl) rfl rfl (by omega) rfl dX11_told_118 ?_
    refine z_iret dX11_told_121 rfl ?_
    exact ⟨rfl, rfl, rfl, rfl, rfl⟩
  refine ⟨fun c1_6 => ?_, fun nc1_6 => ?_⟩
  · show zS _ _ _ _ _ _ _ 122 _ _ _ _ _
    rw [btold_6 c1_6]
    refine z_aload0 dX11_told_122 ?_
    refine zc_getF (j := 0) hW fl_RX11_34 rfl (by decide) (hF _ (List.mem_of_getElem? (i := 3) rfl)) dX11_told_123 ?_
    refine zc_getF (j := 17) hW fl_RX11_133 rfl (by decide) (hF _ (List.mem_of_getElem? (i := 20) rfl)) dX11_told_126 ?_
    refine zc_getI (j := 21) hW fl_RX11_137 rfl dX11_told_129 ?_
    refine z_iret dX11_told_132 rfl ?_
    exact ⟨rfl, rfl, rfl, rfl, rfl⟩
  refine ⟨fun c1_7 => ?_, fun nc1_7 => ?_⟩
  · show zS _ _ _ _ _ _ _ 133 _ _ _ _ _
    rw [btold_7 c1_7]
    refine z_aload0 dX11_told_133 ?_
    refine zc_getF (j := 0) hW fl_RX11_34 rfl (by decide) (hF _ (List.mem_of_getElem? (i := 3) rfl)) dX11_told_134 ?_
    refine zc_getF (j := 17) hW fl_RX11_133 rfl (by decide) (hF _ (List.mem_of_getElem? (i := 20) rfl)) dX11_told_137 ?_
    refine zc_getI (j := 21) hW fl_RX11_142 rfl dX11_told_140 ?_
    refine z_iret dX11_told_143 rfl ?_
    exact ⟨rfl, rfl, rfl, rfl, rfl⟩
  refine ⟨fun c1_8 => ?_, fun nc1_8 => ?_⟩
  · show zS _ _ _ _ _ _ _ 144 _ _ _ _ _
    rw [btold_8 c1_8]
    refine z_aload0 dX11_told_144 ?_
    refine zc_getF (j := 0) hW fl_RX11_34 rfl (by decide) (hF _ (List.mem_of_getElem? (i := 3) rfl)) dX11_told_145 ?_
    refine zc_getF (j := 17) hW fl_RX11_133 rfl (by decide) (hF _ (List.mem_of_getElem? (i := 20) rfl)) dX11_told_148 ?_
    refine zc_getI (j := 21) hW fl_RX11_145 rfl dX11_told_151 ?_
    refine z_iret dX11_told_154 rfl ?_
    exact ⟨rfl, rfl, rfl, rfl, rfl⟩
  refine ⟨fun c1_9 => ?_, fun nc1_9 => ?_⟩
  · show zS _ _ _ _ _ _ _ 155 _ _ _ _ _
    rw [btold_9 c1_9]
    refine z_aload0 dX11_told_155 ?_
    refine zc_getF (j := 0) hW fl_RX11_34 rfl (by decide) (hF _ (List.mem_of_getElem? (i := 3) rfl)) dX11_told_156 ?_
    refine zc_getF (j := 17) hW fl_RX11_133 rfl (by decide) (hF _ (List.mem_of_getElem? (i := 20) rfl)) dX11_told_159 ?_
    refine zc_getI (j := 21) hW fl_RX11_148 rfl dX11_told_162 ?_
    refine z_iret dX11_told_165 rfl ?_
    exact ⟨rfl, rfl, rfl, rfl, rfl⟩
  refine ⟨fun c1_10 => ?_, fun nc1_10 => ?_⟩
  · show zS _ _ _ _ _ _ _ 166 _ _ _ _ _
    rw [btold_10 c1_10]
    refine z_aload0 dX11_told_166 ?_
    refine zc_getF (j := 0) hW fl_RX11_34 rfl (by decide) (hF _ (List.mem_of_getElem? (i := 3) rfl)) dX11_told_167 ?_
    refine zc_getI (j := 17) hW fl_RX11_82 rfl dX11_told_170 ?_
    refine z_iconst (v := 3) dX11_told_173 (by decide) ?_
    refine z_icmp_ne (tgt := 187) dX11_told_174 (by decide) (fun c174 => ?_) (fun c174 => ?_)
    · show zS _ _ _ _ _ _ _ 187 _ _ _ _ _
      rw [if_neg c174]
      refine z_bipush (v := (-9)) dX11_told_187 (by decide) ?_
      refine z_iret dX11_told_189 rfl ?_
      exact ⟨rfl, rfl, rfl, rfl, rfl⟩
    · show zS _ _ _ _ _ _ _ 177 _ _ _ _ _
      rw [if_pos c174]
      refine z_aload0 dX11_told_177 ?_
      refine zc_getF (j := 0) hW fl_RX11_34 rfl (by decide) (hF _ (List.mem_of_getElem? (i := 3) rfl)) dX11_told_178 ?_
      refine zc_getI (j := 17) hW fl_RX11_151 rfl dX11_told_181 ?_
      refine z_goto (tgt := 189) dX11_told_184 (by decide) ?_
      show zS _ _ _ _ _ _ _ 189 _ _ _ _ _
      refine z_iret dX11_told_189 rfl ?_
      exact ⟨rfl, rfl, rfl, rfl, rfl⟩
  refine ⟨fun c1_11 => ?_, fun nc1_11 => ?_⟩
  · show zS _ _ _ _ _ _ _ 190 _ _ _ _ _
    rw [btold_11 c1_11]
    refine z_aload0 dX11_told_190 ?_
    refine zc_getI (j := 0) hW fl_RX11_13 rfl dX11_told_191 ?_
    refine z_iret dX11_told_194 rfl ?_
    exact ⟨rfl, rfl, rfl, rfl, rfl⟩
  refine ⟨fun c1_12 => ?_, fun nc1_12 => ?_⟩
  · show zS _ _ _ _ _ _ _ 195 _ _ _ _ _
    rw [btold_12 c1_12]
    refine z_aload0 dX11_told_195 ?_
    refine zc_getF (j := 0) hW fl_RX11_34 rfl (by decide) (hF _ (List.mem_of_getElem? (i := 3) rfl)) dX11_told_196 ?_
    refine z_callVi zmd_X8_countDefined rfl (by decide) zl_RX11_154 zin_X8_countDefined zsel_X8_countDefined (B_X8_countDefined (d := d - 1) hW hF hw ) (hW.i 17 rfl) rfl rfl (by omega) rfl dX11_told_199 ?_
    refine z_iret dX11_told_202 rfl ?_
    exact ⟨rfl, rfl, rfl, rfl, rfl⟩
  show zS _ _ _ _ _ _ _ 203 _ _ _ _ _
  rw [btold_d nc1_0 nc1_1 nc1_2 nc1_3 nc1_4 nc1_5 nc1_6 nc1_7 nc1_8 nc1_9 nc1_10 nc1_11 nc1_12]
  refine z_iconst (v := (-1)) dX11_told_203 (by decide) ?_
  refine z_iret dX11_told_204 rfl ?_
  exact ⟨rfl, rfl, rfl, rfl, rfl⟩
def bvalue (R : zRf) (C : zI) : Int32 := if C 17 2 = 2 ∨ C 17 2 = 3 ∨ (C 17 2 = 1 ∧ R 17 4 = none) then C 17 6 else 0
theorem bvalue_t {R : zRf} {C : zI} (h : C 17 2 = 2 ∨ C 17 2 = 3 ∨ (C 17 2 = 1 ∧ R 17 4 = none)) : bvalue R C = C 17 6 := if_pos h
theorem bvalue_f {R : zRf} {C : zI} (h : ¬ (C 17 2 = 2 ∨ C 17 2 = 3 ∨ (C 17 2 = 1 ∧ R 17 4 = none))) : bvalue R C = 0 := if_neg h
def bfocus (R : zRf) (C : zI) : Int32 := if C 17 2 = 1 then (if R 17 4 = none then 1 else 2) else 0
def btrace (C : zI) (x : Int32) : Int32 := if x < 0 then -1 else if x < C 17 11 then C 24 (tn x) else -9
def bperfd (C : zI) (x : Int32) : Int32 := if ¬ x < 0 ∧ x < 6 then C 25 (tn x) else -1
set_option maxRecDepth 20000 in
set_option maxHeartbeats 400000 in
theorem B_X11_value {l : Launch} {d : Nat} {D : zD} {b0 : Nat} {g : zG} {f C : zI} {R : zRf} {c : Nat} (hW : CW b0 g c) (hF : CF c R) (hw : zOK b0 zNo (gv c g R))  : zM l d D b0 mX11_value [.ref (c + 0)] (gv c g R) (cv c f C) (zEx (some (.int (bvalue R C))) (gv c g R) (cv c f C)) := by
  refine zM.start zmd_X11_value (Nat.le_of_ble_eq_true rfl) ⟨rfl, trivial⟩ [some (.ref (c + 0)), none] rfl ?_
  refine z_aload0 dX11_value_0 ?_
  refine zc_getF (j := 0) hW fl_RX11_34 rfl (by decide) (hF _ (List.mem_of_getElem? (i := 3) rfl)) dX11_value_1 ?_
  refine zc_getI (j := 17) hW fl_RX11_82 rfl dX11_value_4 ?_
  refine z_iconst (v := 2) dX11_value_7 (by decide) ?_
  refine z_icmp_eq (tgt := 43) dX11_value_8 (by decide) (fun c8 => ?_) (fun c8 => ?_)
  · show zS _ _ _ _ _ _ _ 43 _ _ _ _ _
    refine z_iconst (v := 1) dX11_value_43 (by decide) ?_
    refine z_goto (tgt := 48) dX11_value_44 (by decide) ?_
    show zS _ _ _ _ _ _ _ 48 _ _ _ _ _
    refine z_istore1 dX11_value_48 ?_
    refine z_iload1 dX11_value_49 ?_
    refine z_if_eq (tgt := 63) dX11_value_50 (by decide) (fun c50 => ?_) (fun c50 => ?_)
    · exact absurd c50 (by decide)
    · show zS _ _ _ _ _ _ _ 53 _ _ _ _ _
      refine z_aload0 dX11_value_53 ?_
      refine zc_getF (j := 0) hW fl_RX11_34 rfl (by decide) (hF _ (List.mem_of_getElem? (i := 3) rfl)) dX11_value_54 ?_
      refine zc_getI (j := 17) hW fl_RX11_160 rfl dX11_value_57 ?_
      refine z_goto (tgt := 64) dX11_value_60 (by decide) ?_
      show zS _ _ _ _ _ _ _ 64 _ _ _ _ _
      refine z_iret dX11_value_64 rfl ?_
      rw [bvalue_t (Or.inl c8)]
      exact ⟨rfl, rfl, rfl, rfl, rfl⟩
  · show zS _ _ _ _ _ _ _ 11 _ _ _ _ _
    refine z_aload0 dX11_value_11 ?_
    refine zc_getF (j := 0) hW fl_RX11_34 rfl (by decide) (hF _ (List.mem_of_getElem? (i := 3) rfl)) dX11_value_12 ?_
    refine zc_getI (j := 17) hW fl_RX11_82 rfl dX11_value_15 ?_
    refine z_iconst (v := 3) dX11_value_18 (by decide) ?_
    refine z_icmp_eq (tgt := 43) dX11_value_19 (by decide) (fun c19 => ?_) (fun c19 => ?_)
    · show zS _ _ _ _ _ _ _ 43 _ _ _ _ _
      refine z_iconst (v := 1) dX11_value_43 (by decide) ?_
      refine z_goto (tgt := 48) dX11_value_44 (by decide) ?_
      show zS _ _ _ _ _ _ _ 48 _ _ _ _ _
      refine z_istore1 dX11_value_48 ?_
      refine z_iload1 dX11_value_49 ?_
      refine z_if_eq (tgt := 63) dX11_value_50 (by decide) (fun c50 => ?_) (fun c50 => ?_)
      · exact absurd c50 (by decide)
      · show zS _ _ _ _ _ _ _ 53 _ _ _ _ _
        refine z_aload0 dX11_value_53 ?_
        refine zc_getF (j := 0) hW fl_RX11_34 rfl (by decide) (hF _ (List.mem_of_getElem? (i := 3) rfl)) dX11_value_54 ?_
        refine zc_getI (j := 17) hW fl_RX11_160 rfl dX11_value_57 ?_
        refine z_goto (tgt := 64) dX11_value_60 (by decide) ?_
        show zS _ _ _ _ _ _ _ 64 _ _ _ _ _
        refine z_iret dX11_value_64 rfl ?_
        rw [bvalue_t (Or.inr (Or.inl c19))]
        exact ⟨rfl, rfl, rfl, rfl, rfl⟩
    · show zS _ _ _ _ _ _ _ 22 _ _ _ _ _
      refine z_aload0 dX11_value_22 ?_
      refine zc_getF (j := 0) hW fl_RX11_34 rfl (by decide) (hF _ (List.mem_of_getElem? (i := 3) rfl)) dX11_value_23 ?_
      refine zc_getI (j := 17) hW fl_RX11_82 rfl dX11_value_26 ?_
      refine z_iconst (v := 1) dX11_value_29 (by decide) ?_
      refine z_icmp_ne (tgt := 47) dX11_value_30 (by decide) (fun c30 => ?_) (fun c30 => ?_)
      · show zS _ _ _ _ _ _ _ 47 _ _ _ _ _
        refine z_iconst (v := 0) dX11_value_47 (by decide) ?_
        refine z_istore1 dX11_value_48 ?_
        refine z_iload1 dX11_value_49 ?_
        refine z_if_eq (tgt := 63) dX11_value_50 (by decide) (fun c50 => ?_) (fun c50 => ?_)
        · show zS _ _ _ _ _ _ _ 63 _ _ _ _ _
          refine z_iconst (v := 0) dX11_value_63 (by decide) ?_
          refine z_iret dX11_value_64 rfl ?_
          rw [bvalue_f (fun q => q.elim c8 (fun q => q.elim c19 (fun q => c30 q.1)))]
          exact ⟨rfl, rfl, rfl, rfl, rfl⟩
        · exact absurd rfl c50
      · show zS _ _ _ _ _ _ _ 33 _ _ _ _ _
        refine z_aload0 dX11_value_33 ?_
        refine zc_getF (j := 0) hW fl_RX11_34 rfl (by decide) (hF _ (List.mem_of_getElem? (i := 3) rfl)) dX11_value_34 ?_
        refine zc_getN (j := 17) hw hW fl_RX11_157 rfl (by decide) dX11_value_37 (fun i1 => ?_)
        refine z_ifnonnull (tgt := 47) dX11_value_40 (by decide) (fun a40 c40 => ?_) (fun c40 => ?_)
        · show zS _ _ _ _ _ _ _ 47 _ _ _ _ _
          refine z_iconst (v := 0) dX11_value_47 (by decide) ?_
          refine z_istore1 dX11_value_48 ?_
          refine z_iload1 dX11_value_49 ?_
          refine z_if_eq (tgt := 63) dX11_value_50 (by decide) (fun c50 => ?_) (fun c50 => ?_)
          · show zS _ _ _ _ _ _ _ 63 _ _ _ _ _
            refine z_iconst (v := 0) dX11_value_63 (by decide) ?_
            refine z_iret dX11_value_64 rfl ?_
            rw [bvalue_f (fun q => q.elim c8 (fun q => q.elim c19 (fun q => by rw [c40] at q; cases q.2)))]
            exact ⟨rfl, rfl, rfl, rfl, rfl⟩
          · exact absurd rfl c50
        · show zS _ _ _ _ _ _ _ 43 _ _ _ _ _
          refine z_iconst (v := 1) dX11_value_43 (by decide) ?_
          refine z_goto (tgt := 48) dX11_value_44 (by decide) ?_
          show zS _ _ _ _ _ _ _ 48 _ _ _ _ _
          refine z_istore1 dX11_value_48 ?_
          refine z_iload1 dX11_value_49 ?_
          refine z_if_eq (tgt := 63) dX11_value_50 (by decide) (fun c50 => ?_) (fun c50 => ?_)
          · exact absurd c50 (by decide)
          · show zS _ _ _ _ _ _ _ 53 _ _ _ _ _
            refine z_aload0 dX11_value_53 ?_
            refine zc_getF (j := 0) hW fl_RX11_34 rfl (by decide) (hF _ (List.mem_of_getElem? (i := 3) rfl)) dX11_value_54 ?_
            refine zc_getI (j := 17) hW fl_RX11_160 rfl dX11_value_57 ?_
            refine z_goto (tgt := 64) dX11_value_60 (by decide) ?_
            show zS _ _ _ _ _ _ _ 64 _ _ _ _ _
            refine z_iret dX11_value_64 rfl ?_
            rw [bvalue_t (Or.inr (Or.inr ⟨c30, c40⟩))]
            exact ⟨rfl, rfl, rfl, rfl, rfl⟩
set_option maxRecDepth 20000 in
set_option maxHeartbeats 400000 in
theorem B_X11_focus {l : Launch} {d : Nat} {D : zD} {b0 : Nat} {g : zG} {f C : zI} {R : zRf} {c : Nat} (hW : CW b0 g c) (hF : CF c R) (hw : zOK b0 zNo (gv c g R))  : zM l d D b0 mX11_focus [.ref (c + 0)] (gv c g R) (cv c f C) (zEx (some (.int (bfocus R C))) (gv c g R) (cv c f C)) := by
  refine zM.start zmd_X11_focus (Nat.le_of_ble_eq_true rfl) ⟨rfl, trivial⟩ [some (.ref (c + 0))] rfl ?_
  refine z_aload0 dX11_focus_0 ?_
  refine zc_getF (j := 0) hW fl_RX11_34 rfl (by decide) (hF _ (List.mem_of_getElem? (i := 3) rfl)) dX11_focus_1 ?_
  refine zc_getI (j := 17) hW fl_RX11_82 rfl dX11_focus_4 ?_
  refine z_iconst (v := 1) dX11_focus_7 (by decide) ?_
  refine z_icmp_eq (tgt := 13) dX11_focus_8 (by decide) (fun c8 => ?_) (fun c8 => ?_)
  · show zS _ _ _ _ _ _ _ 13 _ _ _ _ _
    refine z_aload0 dX11_focus_13 ?_
    refine zc_getF (j := 0) hW fl_RX11_34 rfl (by decide) (hF _ (List.mem_of_getElem? (i := 3) rfl)) dX11_focus_14 ?_
    refine zc_getN (j := 17) hw hW fl_RX11_157 rfl (by decide) dX11_focus_17 (fun i1 => ?_)
    refine z_ifnonnull (tgt := 27) dX11_focus_20 (by decide) (fun a20 c20 => ?_) (fun c20 => ?_)
    · show zS _ _ _ _ _ _ _ 27 _ _ _ _ _
      rw [show bfocus R C = 2 from (if_pos c8).trans (if_neg (by rw [c20]; intro q; cases q))]
      refine z_iconst (v := 2) dX11_focus_27 (by decide) ?_
      refine z_iret dX11_focus_28 rfl ?_
      exact ⟨rfl, rfl, rfl, rfl, rfl⟩
    · show zS _ _ _ _ _ _ _ 23 _ _ _ _ _
      rw [show bfocus R C = 1 from (if_pos c8).trans (if_pos c20)]
      refine z_iconst (v := 1) dX11_focus_23 (by decide) ?_
      refine z_goto (tgt := 28) dX11_focus_24 (by decide) ?_
      show zS _ _ _ _ _ _ _ 28 _ _ _ _ _
      refine z_iret dX11_focus_28 rfl ?_
      exact ⟨rfl, rfl, rfl, rfl, rfl⟩
  · show zS _ _ _ _ _ _ _ 11 _ _ _ _ _
    rw [show bfocus R C = 0 from if_neg c8]
    refine z_iconst (v := 0) dX11_focus_11 (by decide) ?_
    refine z_iret dX11_focus_12 rfl ?_
    exact ⟨rfl, rfl, rfl, rfl, rfl⟩
set_option maxRecDepth 20000 in
set_option maxHeartbeats 400000 in
theorem B_X11_trace {l : Launch} {d : Nat} {D : zD} {b0 : Nat} {g : zG} {f C : zI} {R : zRf} {c : Nat} (hW : CW b0 g c) (hF : CF c R) (hw : zOK b0 zNo (gv c g R)) (x : Int32) (ht : iv 61 (C 17 11)) : zM l d D b0 mX11_trace [.ref (c + 0), .int x] (gv c g R) (cv c f C) (zEx (some (.int (btrace C x))) (gv c g R) (cv c f C)) := by
  refine zM.start zmd_X11_trace (Nat.le_of_ble_eq_true rfl) ⟨rfl, rfl, trivial⟩ [some (.ref (c + 0)), some (.int x)] rfl ?_
  refine z_iload1 dX11_trace_0 ?_
  refine z_if_ge (tgt := 6) dX11_trace_1 (by decide) (fun c1 => ?_) (fun c1 => ?_)
  · show zS _ _ _ _ _ _ _ 6 _ _ _ _ _
    refine z_iload1 dX11_trace_6 ?_
    refine z_aload0 dX11_trace_7 ?_
    refine zc_getF (j := 0) hW fl_RX11_34 rfl (by decide) (hF _ (List.mem_of_getElem? (i := 3) rfl)) dX11_trace_8 ?_
    refine zc_getI (j := 17) hW fl_RX11_126 rfl dX11_trace_11 ?_
    refine z_icmp_ge (tgt := 29) dX11_trace_14 (by decide) (fun c14 => ?_) (fun c14 => ?_)
    · show zS _ _ _ _ _ _ _ 29 _ _ _ _ _
      rw [show btrace C x = -9 from (if_neg c1).trans (if_neg c14)]
      refine z_bipush (v := (-9)) dX11_trace_29 (by decide) ?_
      refine z_iret dX11_trace_31 rfl ?_
      exact ⟨rfl, rfl, rfl, rfl, rfl⟩
    · show zS _ _ _ _ _ _ _ 17 _ _ _ _ _
      have hxt : x < C 17 11 := by first | exact c14 | exact Classical.not_not.mp c14
      rw [show btrace C x = C 24 (tn x) from (if_neg c1).trans (if_pos hxt)]
      obtain ⟨xn, hx1, hx2⟩ := nI_of c1
      have hxl : xn < 60 := by
        have q := hxt
        have q3 := ht.1
        rw [hx2, ht.2] at q
        have := (nI_ltI hx1 (by omega)).mp q
        omega
      have htx : tn x = xn := by rw [hx2]; exact tn_nI hx1
      refine z_aload0 dX11_trace_17 ?_
      refine zc_getF (j := 0) hW fl_RX11_34 rfl (by decide) (hF _ (List.mem_of_getElem? (i := 3) rfl)) dX11_trace_18 ?_
      refine zc_getF (j := 17) hW fl_RX11_163 rfl (by decide) (hF _ (List.mem_of_getElem? (i := 21) rfl)) dX11_trace_21 ?_
      refine z_iload1 dX11_trace_24 ?_
      refine zc_ld (j := 24) hW rfl (by decide) (by rw [htx]; exact hx2 : x = nI (tn x)) (by rw [htx]; exact hxl) dX11_trace_25 ?_
      refine z_goto (tgt := 31) dX11_trace_26 (by decide) ?_
      show zS _ _ _ _ _ _ _ 31 _ _ _ _ _
      refine z_iret dX11_trace_31 rfl ?_
      exact ⟨rfl, rfl, rfl, rfl, rfl⟩
  · show zS _ _ _ _ _ _ _ 4 _ _ _ _ _
    rw [show btrace C x = -1 from if_pos (by first | exact c1 | exact Classical.not_not.mp c1)]
    refine z_iconst (v := (-1)) dX11_trace_4 (by decide) ?_
    refine z_iret dX11_trace_5 rfl ?_
    exact ⟨rfl, rfl, rfl, rfl, rfl⟩
set_option maxRecDepth 20000 in
set_option maxHeartbeats 400000 in
theorem B_X11_performed {l : Launch} {d : Nat} {D : zD} {b0 : Nat} {g : zG} {f C : zI} {R : zRf} {c : Nat} (hW : CW b0 g c) (hF : CF c R) (hw : zOK b0 zNo (gv c g R)) (x : Int32) (hd : 1 ≤ d) : zM l d D b0 mX11_performed [.ref (c + 0), .int x] (gv c g R) (cv c f C) (zEx (some (.int (bperfd C x))) (gv c g R) (cv c f C)) := by
  refine zM.start zmd_X11_performed (Nat.le_of_ble_eq_true rfl) ⟨rfl, rfl, trivial⟩ [some (.ref (c + 0)), some (.int x)] rfl ?_
  refine z_iload1 dX11_performed_0 ?_
  refine z_callSi zmd_X11_isOperation zl_RX11_85 zst_X11_isOperation (K_X11_isOperation (d := d - 1) _) rfl rfl (by omega) rfl dX11_performed_1 ?_
  refine z_if_ne (tgt := 9) dX11_performed_4 (by decide) (fun c4 => ?_) (fun c4 => ?_)
  · show zS _ _ _ _ _ _ _ 9 _ _ _ _ _
    rw [show bperfd C x = C 25 (tn x) from if_pos (zB_t c4)]
    have hx6 : iv 6 x := by
      obtain ⟨q1, q2⟩ := zB_t c4
      obtain ⟨j, h1, rfl⟩ := nI_of q1
      exact iv_nI ((nI_ltI (b := 6) h1 (by decide)).mp q2) (by decide)
    have hx7 := hx6.1
    refine z_aload0 dX11_performed_9 ?_
    refine zc_getF (j := 0) hW fl_RX11_34 rfl (by decide) (hF _ (List.mem_of_getElem? (i := 3) rfl)) dX11_performed_10 ?_
    refine zc_getF (j := 17) hW fl_RX11_166 rfl (by decide) (hF _ (List.mem_of_getElem? (i := 22) rfl)) dX11_performed_13 ?_
    refine z_iload1 dX11_performed_16 ?_
    refine zc_ld (j := 25) hW rfl (by decide) (hx6.2 : x = nI (tn x)) (by omega) dX11_performed_17 ?_
    refine z_iret dX11_performed_18 rfl ?_
    exact ⟨rfl, rfl, rfl, rfl, rfl⟩
  · show zS _ _ _ _ _ _ _ 7 _ _ _ _ _
    rw [show bperfd C x = -1 from if_neg (zB_f c4)]
    refine z_iconst (v := (-1)) dX11_performed_7 (by decide) ?_
    refine z_iret dX11_performed_8 rfl ?_
    exact ⟨rfl, rfl, rfl, rfl, rfl⟩
def bframe (g : zG) (R : zRf) (f C : zI) (k y : Int32) : Int32 := match bbelow C R k with
  | none => -1
  | some x => if y = 0 then f x 0 else if y = 1 then bprop g f C x else -1
theorem bframe_n {g : zG} {R : zRf} {f C : zI} {k y : Int32} (h : bbelow C R k = none) : bframe g R f C k y = -1 := by unfold bframe; rw [h]
theorem bframe_0 {g : zG} {R : zRf} {f C : zI} {k y : Int32} {x : Nat} (h : bbelow C R k = some x) (h0 : y = 0) : bframe g R f C k y = f x 0 := by unfold bframe; rw [h]; exact if_pos h0
theorem bframe_1 {g : zG} {R : zRf} {f C : zI} {k y : Int32} {x : Nat} (h : bbelow C R k = some x) (h0 : ¬ y = 0) (h1 : y = 1) : bframe g R f C k y = bprop g f C x := by unfold bframe; rw [h]; exact (if_neg h0).trans (if_pos h1)
theorem bframe_e {g : zG} {R : zRf} {f C : zI} {k y : Int32} {x : Nat} (h : bbelow C R k = some x) (h0 : ¬ y = 0) (h1 : ¬ y = 1) : bframe g R f C k y = -1 := by unfold bframe; rw [h]; exact (if_neg h0).trans (if_neg h1)
set_option maxRecDepth 20000 in
set_option maxHeartbeats 400000 in
theorem B_X11_frame {l : Launch} {d : Nat} {D : zD} {b0 : Nat} {g : zG} {f C : zI} {R : zRf} {c : Nat} (hW : CW b0 g c) (hF : CF c R) (hw : zOK b0 zNo (gv c g R)) (k y : Int32) (hdp : iv 101 (C 19 1)) (hV : ∀ x, bbelow C R k = some x → bpropV g f c x) (hd : 3 ≤ d) : zM l d D b0 mX11_frame [.ref (c + 0), .int k, .int y] (gv c g R) (cv c f C) (zEx (some (.int (bframe g R f C k y))) (gv c g R) (cv c f C)) := by
  refine zM.start zmd_X11_frame (Nat.le_of_ble_eq_true rfl) ⟨rfl, rfl, rfl, trivial⟩ [some (.ref (c + 0)), some (.int k), some (.int y), none] rfl ?_
  refine z_aload0 dX11_frame_0 ?_
  refine zc_getF (j := 0) hW fl_RX11_34 rfl (by decide) (hF _ (List.mem_of_getElem? (i := 3) rfl)) dX11_frame_1 ?_
  refine zc_getF (j := 17) hW fl_RX11_107 rfl (by decide) (hF _ (List.mem_of_getElem? (i := 19) rfl)) dX11_frame_4 ?_
  refine z_iload1 dX11_frame_7 ?_
  refine z_callV zmd_X10_below rfl (by decide) zl_RX11_169 zin_X10_below zsel_X10_below (B_X10_below (d := d - 1) hW hF hw _ hdp) (hW.i 19 rfl) rfl rfl (by omega) rfl dX11_frame_8 (fun r1 g1 f1 mc1 ms1 q1 => ?_)
  obtain ⟨rfl, rfl, rfl, rfl, rfl⟩ := q1
  refine z_astore3 dX11_frame_11 ?_
  refine z_aload3 dX11_frame_12 ?_
  refine z_ifnull (tgt := 25) dX11_frame_13 (by decide) (fun c13 => ?_) (fun a13 c13 => ?_)
  · show zS _ _ _ _ _ _ _ 25 _ _ _ _ _
    rw [bframe_n c13]
    refine z_iconst (v := (-1)) dX11_frame_25 (by decide) ?_
    refine z_iret dX11_frame_26 rfl ?_
    exact ⟨rfl, rfl, rfl, rfl, rfl⟩
  · show zS _ _ _ _ _ _ _ 16 _ _ _ _ _
    have hxi := bbelow_in hw hW hdp _ c13
    rw [c13]
    refine z_iload2 dX11_frame_16 ?_
    refine z_if_eq (tgt := 27) dX11_frame_17 (by decide) (fun c17 => ?_) (fun c17 => ?_)
    · show zS _ _ _ _ _ _ _ 27 _ _ _ _ _
      refine z_iload2 dX11_frame_27 ?_
      refine z_if_ne (tgt := 38) dX11_frame_28 (by decide) (fun c28 => ?_) (fun c28 => ?_)
      · exact absurd c17 c28
      · show zS _ _ _ _ _ _ _ 31 _ _ _ _ _
        refine z_aload3 dX11_frame_31 ?_
        refine zd_getI hW fl_RX11_173 hxi (by decide) dX11_frame_32 ?_
        refine z_goto (tgt := 46) dX11_frame_35 (by decide) ?_
        show zS _ _ _ _ _ _ _ 46 _ _ _ _ _
        refine z_iret dX11_frame_46 rfl ?_
        rw [bframe_0 c13 c17]
        exact ⟨rfl, rfl, rfl, rfl, rfl⟩
    · show zS _ _ _ _ _ _ _ 20 _ _ _ _ _
      refine z_iload2 dX11_frame_20 ?_
      refine z_iconst (v := 1) dX11_frame_21 (by decide) ?_
      refine z_icmp_eq (tgt := 27) dX11_frame_22 (by decide) (fun c22 => ?_) (fun c22 => ?_)
      · show zS _ _ _ _ _ _ _ 27 _ _ _ _ _
        refine z_iload2 dX11_frame_27 ?_
        refine z_if_ne (tgt := 38) dX11_frame_28 (by decide) (fun c28 => ?_) (fun c28 => ?_)
        · show zS _ _ _ _ _ _ _ 38 _ _ _ _ _
          refine z_aload0 dX11_frame_38 ?_
          refine zc_getF (j := 0) hW fl_RX11_34 rfl (by decide) (hF _ (List.mem_of_getElem? (i := 3) rfl)) dX11_frame_39 ?_
          refine z_aload3 dX11_frame_42 ?_
          refine z_callVi zmd_X8_propertyOf rfl (by decide) zl_RX11_178 zin_X8_propertyOf zsel_X8_propertyOf (B_X8_propertyOf (d := d - 1) hW hF hw _ hxi (hV _ c13) (by omega)) (hW.i 17 rfl) rfl rfl (by omega) rfl dX11_frame_43 ?_
          refine z_iret dX11_frame_46 rfl ?_
          rw [bframe_1 c13 c17 c22]
          exact ⟨rfl, rfl, rfl, rfl, rfl⟩
        · exact absurd c28 c17
      · show zS _ _ _ _ _ _ _ 25 _ _ _ _ _
        rw [bframe_e c13 c17 c22]
        refine z_iconst (v := (-1)) dX11_frame_25 (by decide) ?_
        refine z_iret dX11_frame_26 rfl ?_
        exact ⟨rfl, rfl, rfl, rfl, rfl⟩
def bhandler (g : zG) (R : zRf) (f C : zI) (x : Int32) (dp : Nat) : Int32 := if ¬ x < 0 ∧ x < 6 then (if bphA g f (R 20) x dp 0 < 0 then -9 else C 19 1 - 1 - bphA g f (R 20) x dp 0) else -1
set_option maxRecDepth 20000 in
set_option maxHeartbeats 400000 in
theorem B_X11_handler {l : Launch} {d : Nat} {D : zD} {b0 : Nat} {g : zG} {f C : zI} {R : zRf} {c : Nat} (hW : CW b0 g c) (hF : CF c R) (hw : zOK b0 zNo (gv c g R)) (x : Int32) (dp : Nat) (hdp : C 19 1 = nI dp) (h100 : dp ≤ 100) (hV : bphV g f c (R 20) dp) (hd : 2 ≤ d) : zM l d D b0 mX11_handler [.ref (c + 0), .int x] (gv c g R) (cv c f C) (zEx (some (.int (bhandler g R f C x dp))) (gv c g R) (cv c f C)) := by
  refine zM.start zmd_X11_handler (Nat.le_of_ble_eq_true rfl) ⟨rfl, rfl, trivial⟩ [some (.ref (c + 0)), some (.int x), none] rfl ?_
  refine z_iload1 dX11_handler_0 ?_
  refine z_callSi zmd_X11_isOperation zl_RX11_85 zst_X11_isOperation (K_X11_isOperation (d := d - 1) _) rfl rfl (by omega) rfl dX11_handler_1 ?_
  refine z_if_ne (tgt := 9) dX11_handler_4 (by decide) (fun c4 => ?_) (fun c4 => ?_)
  · show zS _ _ _ _ _ _ _ 9 _ _ _ _ _
    refine z_aload0 dX11_handler_9 ?_
    refine zc_getF (j := 0) hW fl_RX11_34 rfl (by decide) (hF _ (List.mem_of_getElem? (i := 3) rfl)) dX11_handler_10 ?_
    refine zc_getF (j := 17) hW fl_RX11_107 rfl (by decide) (hF _ (List.mem_of_getElem? (i := 19) rfl)) dX11_handler_13 ?_
    refine z_iload1 dX11_handler_16 ?_
    refine z_callVi zmd_X10_placeOfHandler rfl (by decide) zl_RX11_182 zin_X10_placeOfHandler zsel_X10_placeOfHandler (B_X10_placeOfHandler (d := d - 1) hW hF hw _ dp hdp h100 hV (by omega)) (hW.i 19 rfl) rfl rfl (by omega) rfl dX11_handler_17 ?_
    refine z_istore2 dX11_handler_20 ?_
    refine z_iload2 dX11_handler_21 ?_
    refine z_if_ge (tgt := 30) dX11_handler_22 (by decide) (fun c22 => ?_) (fun c22 => ?_)
    · show zS _ _ _ _ _ _ _ 30 _ _ _ _ _
      rw [show bhandler g R f C x dp = _ from (if_pos (zB_t c4)).trans (if_neg c22)]
      refine z_aload0 dX11_handler_30 ?_
      refine zc_getF (j := 0) hW fl_RX11_34 rfl (by decide) (hF _ (List.mem_of_getElem? (i := 3) rfl)) dX11_handler_31 ?_
      refine zc_getF (j := 17) hW fl_RX11_107 rfl (by decide) (hF _ (List.mem_of_getElem? (i := 19) rfl)) dX11_handler_34 ?_
      refine zc_getI (j := 19) hW fl_RX11_111 rfl dX11_handler_37 ?_
      refine z_iconst (v := 1) dX11_handler_40 (by decide) ?_
      refine z_isub dX11_handler_41 ?_
      refine z_iload2 dX11_handler_42 ?_
      refine z_isub dX11_handler_43 ?_
      refine z_iret dX11_handler_44 rfl ?_
      exact ⟨rfl, rfl, rfl, rfl, rfl⟩
    · show zS _ _ _ _ _ _ _ 25 _ _ _ _ _
      rw [show bhandler g R f C x dp = -9 from (if_pos (zB_t c4)).trans (if_pos (by first | exact c22 | exact Classical.not_not.mp c22))]
      refine z_bipush (v := (-9)) dX11_handler_25 (by decide) ?_
      refine z_goto (tgt := 44) dX11_handler_27 (by decide) ?_
      show zS _ _ _ _ _ _ _ 44 _ _ _ _ _
      refine z_iret dX11_handler_44 rfl ?_
      exact ⟨rfl, rfl, rfl, rfl, rfl⟩
  · show zS _ _ _ _ _ _ _ 7 _ _ _ _ _
    rw [show bhandler g R f C x dp = -1 from if_neg (zB_f c4)]
    refine z_iconst (v := (-1)) dX11_handler_7 (by decide) ?_
    refine z_iret dX11_handler_8 rfl ?_
    exact ⟨rfl, rfl, rfl, rfl, rfl⟩
def bdefine (g : zG) (R : zRf) (f C : zI) (len : Nat) (p : Int32) (n : Nat) : bSt × Int32 :=
  if ¬ p < 0 ∧ p < 4 then
    (if (bread g R f C len 1).2 = -9 then ((bbdG (bread g R f C len 1).1.1 (bread g R f C len 1).1.2.1 n, zup (bread g R f C len 1).1.2.1 18 (tn p) (some ((bread g R f C len 1).1.1.1 + 1)), bbdF (bread g R f C len 1).1.1 (bread g R f C len 1).1.2.1 (bread g R f C len 1).1.2.2.1 n, (bread g R f C len 1).1.2.2.2), nI n)
      else ((bread g R f C len 1).1, -2))
  else ((g, R, f, C), -1)
theorem bdefine_b {g : zG} {R : zRf} {f C : zI} {len n : Nat} {p : Int32} (h : ¬ (¬ p < 0 ∧ p < 4)) : bdefine g R f C len p n = ((g, R, f, C), -1) := if_neg h
theorem bdefine_s {g : zG} {R : zRf} {f C : zI} {len n : Nat} {p : Int32} {q : bSt × Int32} (hq : bread g R f C len 1 = q) (h : ¬ p < 0 ∧ p < 4) (h2 : ¬ q.2 = -9) : bdefine g R f C len p n = (q.1, -2) := by
  subst hq
  exact (if_pos h).trans (if_neg h2)
theorem bdefine_d {g : zG} {R : zRf} {f C : zI} {len n : Nat} {p : Int32} {q : bSt × Int32} (hq : bread g R f C len 1 = q) (h : ¬ p < 0 ∧ p < 4) (h2 : q.2 = -9) : bdefine g R f C len p n = ((bbdG q.1.1 q.1.2.1 n, zup q.1.2.1 18 (tn p) (some (q.1.1.1 + 1)), bbdF q.1.1 q.1.2.1 q.1.2.2.1 n, q.1.2.2.2), nI n) := by
  subst hq
  exact (if_pos h).trans (if_pos h2)
/-- what was read, where it had no fault -/
def breadV (q : bSt × Int32) (n : Nat) : Prop := q.2 = -9 → q.1.2.2.2 2 1 = nI n ∧ n ≤ 120 ∧ q.1.2.1 3 0 = some ((q.1.2.1 3 0).getD 0)
theorem bbdG_all {b0 : Nat} {g : zG} {R : zRf} {c n : Nat} (hW : CW b0 g c) : zIn b0 (bbdG g R n) g.1 14 ∧ (bbdG g R n).2.2.1 g.1 = n := by
  have h0 : zIn b0 (znG g 14 n) g.1 14 := zIn.self (Nat.le_trans hW.1 (by have := hW.2.1; omega))
  have hl : zLe (znG g 14 n) (bbdG g R n) := (arG_le g 14 (R 3) n n).tr ((zLe.new _ 0 0).tr (dbG_le _ _ _ _))
  exact ⟨h0.le hl, hl.len h0 (zu1_at _ _ _)⟩
set_option maxRecDepth 20000 in
set_option maxHeartbeats 400000 in
theorem B_X11_define {l : Launch} {d : Nat} {D : zD} {b0 : Nat} {g : zG} {f C : zI} {R : zRf} {c : Nat} (hW : CW b0 g c) (hF : CF c R) (hw : zOK b0 zNo (gv c g R)) (p : Int32) (len n : Nat) (hln : C 0 1 = nI len) (hlen : len ≤ 120) (h6 : ∀ k, iv 7 (C 6 k)) (hE : EO b0 g c) (hV : breadV (bread g R f C len 1) n) (hd : 7 ≤ d) : zM l d D b0 mX11_define [.ref (c + 0), .int p] (gv c g R) (cv c f C) (zCy b0 zNo c g (some (.int (bdefine g R f C len p n).2)) (bdefine g R f C len p n).1.1 (bdefine g R f C len p n).1.2.1 (bdefine g R f C len p n).1.2.2.1 (bdefine g R f C len p n).1.2.2.2 (3 * len + 3) (24 * len + 123)) := by
  refine zM.start zmd_X11_define (Nat.le_of_ble_eq_true rfl) ⟨rfl, rfl, trivial⟩ [some (.ref (c + 0)), some (.int p)] rfl ?_
  refine z_iload1 dX11_define_0 ?_
  refine z_callSi zmd_X11_isProcedure zl_RX11_74 zst_X11_isProcedure (K_X11_isProcedure (d := d - 1) _) rfl rfl (by omega) rfl dX11_define_1 ?_
  refine z_if_ne (tgt := 9) dX11_define_4 (by decide) (fun c4 => ?_) (fun c4 => ?_)
  · show zS _ _ _ _ _ _ _ 9 _ _ _ _ _
    have hpp := zB_t c4
    have hpi := iv4 hpp
    have hp1 := hpi.1
    refine z_aload0 dX11_define_9 ?_
    refine zc_getF (j := 0) hW fl_RX11_20 rfl (by decide) (hF _ (List.mem_of_getElem? (i := 1) rfl)) dX11_define_10 ?_
    refine z_aload0 dX11_define_13 ?_
    refine zc_getF (j := 0) hW fl_RX11_9 rfl (by decide) (hF _ (List.mem_of_getElem? (i := 0) rfl)) dX11_define_14 ?_
    refine z_aload0 dX11_define_17 ?_
    refine zc_getI (j := 0) hW fl_RX11_13 rfl dX11_define_18 ?_
    rw [hln]
    refine z_iconst (v := 1) dX11_define_21 (by decide) ?_
    refine z_callV zmd_X6_read rfl (by decide) zl_RX11_42 zin_X6_read zsel_X6_read (B_X6_read (d := d - 1) hW hF hw len _ hlen h6 hE (by omega)) (hW.i 2 rfl) rfl rfl (by omega) rfl dX11_define_22 (fun r2 g2 f2 mc2 ms2 q2 => ?_)
    obtain ⟨rfl, rfl, rfl, hc2, hs2, w2, k2, b2⟩ := q2
    have hcr : CF c (bread g R f C len 1).1.2.1 := hF.read
    have hvv := hV
    generalize hq : bread g R f C len 1 = q at w2 k2 b2 hvv hcr ⊢
    refine z_bipush (v := (-9)) dX11_define_25 (by decide) ?_
    refine z_icmp_eq (tgt := 33) dX11_define_27 (by decide) (fun c27 => ?_) (fun c27 => ?_)
    · show zS _ _ _ _ _ _ _ 33 _ _ _ _ _
      have hbW := b2
      have hn120 := (hvv c27).2.1
      rw [bdefine_d hq hpp c27]
      refine z_aload0 dX11_define_33 ?_
      refine zc_getF (j := 0) b2 fl_RX11_34 rfl (by decide) (hcr _ (List.mem_of_getElem? (i := 3) rfl)) dX11_define_34 ?_
      refine zc_getF (j := 17) b2 fl_RX11_78 rfl (by decide) (hcr _ (List.mem_of_getElem? (i := 18) rfl)) dX11_define_37 ?_
      refine z_iload1 dX11_define_40 ?_
      refine z_aload0 dX11_define_41 ?_
      refine zc_getF (j := 0) b2 fl_RX11_20 rfl (by decide) (hcr _ (List.mem_of_getElem? (i := 1) rfl)) dX11_define_42 ?_
      refine z_callV zmd_X6_body rfl (by decide) zl_RX11_46 zin_X6_body zsel_X6_body (B_X6_body (d := d - 1) b2 hcr w2 n (hvv c27).1 (hvv c27).2.1 (hvv c27).2.2 (by omega)) (b2.i 2 rfl) rfl rfl (by omega) rfl dX11_define_45 (fun r3 g3 f3 mc3 ms3 q3 => ?_)
      obtain ⟨rfl, rfl, rfl, hc3, hs3, w3, k3, b3⟩ := q3
      refine zc_asts (j := 18) (t' := 0) w3 b3 rfl (by decide) (by decide) (hpi.2 : _ = nI (tn p)) (by omega) (fun _ => rfl) (bbdG_in hbW) dX11_define_48 (fun w4 => ?_)
      refine z_aload0 dX11_define_49 ?_
      refine zc_getF (j := 0) b3 fl_RX11_34 rfl (by decide) ((hcr.upj (by decide)) _ (List.mem_of_getElem? (i := 3) rfl)) dX11_define_50 ?_
      refine zc_getF (j := 17) b3 fl_RX11_78 rfl (by decide) ((hcr.upj (by decide)) _ (List.mem_of_getElem? (i := 18) rfl)) dX11_define_53 ?_
      show zS _ _ _ _ _ _ _ 56 _ _ _ _ _
      refine z_iload1 dX11_define_56 ?_
      refine zc_alds (j := 18) (t' := 0) w4 b3 rfl (by decide) (by decide) (hpi.2 : _ = nI (tn p)) (by omega) (fun _ => rfl) (by decide) (zup_at _ _ _ _) dX11_define_57 (fun i5 => ?_)
      refine zd_getS w4 b3 fl_RX11_70 i5 (by decide) (by decide) (dbG_f _ _ _ _).2.1 dX11_define_58 (fun i6 => ?_)
      have hbA := bbdG_all (R := q.1.2.1) (n := n) hbW
      refine z_alenN hbA.1 (by decide) hbA.2 dX11_define_61 ?_
      refine z_iret dX11_define_62 rfl ?_
      exact ⟨rfl, rfl, rfl, by omega, by omega, w4, (k2.tr k3), b3⟩
    · show zS _ _ _ _ _ _ _ 30 _ _ _ _ _
      rw [bdefine_s hq hpp c27]
      refine z_bipush (v := (-2)) dX11_define_30 (by decide) ?_
      refine z_iret dX11_define_32 rfl ?_
      exact ⟨rfl, rfl, rfl, by omega, by omega, w2, k2, b2⟩
  · show zS _ _ _ _ _ _ _ 7 _ _ _ _ _
    rw [bdefine_b (zB_f c4)]
    refine z_iconst (v := (-1)) dX11_define_7 (by decide) ?_
    refine z_iret dX11_define_8 rfl ?_
    exact ⟨rfl, rfl, rfl, by omega, by omega, hw, zLe.rf, hW⟩
/-- a main expression is loaded: what was read is q -/
def bloadG (q : bSt) (n : Nat) : zG := bbdG q.1 q.2.1 n
def bloadF (q : bSt) (n : Nat) : zI := bbdF q.1 q.2.1 q.2.2.1 n
def bloadE (q : bSt) : Nat := (q.2.1 3 0).getD 0
def bloadL (q : bSt) (n j : Nat) : zRf × zI := llist (bloadG q n) q.2.1 (bloadF q n) q.2.2.2 (bloadE q) j
def bloadN (q : bSt) (n j : Nat) : Nat := llistN (bloadG q n) q.2.1 (bloadF q n) q.2.2.2 (bloadE q) j
def bload1 (q : bSt) (n j : Nat) : zG := zpR (znG (bloadG q n) 13 (bloadN q n j)) (q.1.1 + 1) 2 (some (bloadG q n).1)
def bload2 (q : bSt) (n j : Nat) : bSt :=
  (bload1 q n j, (bbegin (bload1 q n j) (zup (bloadL q n j).1 17 0 (some (q.1.1 + 1))) (bloadL q n j).2).1, zu1 (znI (bloadG q n) (bloadF q n)) (bloadG q n).1 (fun k => if k < bloadN q n j then (bloadL q n j).2 10 k else 0), (bbegin (bload1 q n j) (zup (bloadL q n j).1 17 0 (some (q.1.1 + 1))) (bloadL q n j).2).2)
def bload (g : zG) (R : zRf) (f C : zI) (len n j : Nat) : bSt × Int32 := if (bread g R f C len 0).2 = -9 then (bload2 (bread g R f C len 0).1 n j, nI n) else ((bread g R f C len 0).1, -2)
theorem bload_s {g : zG} {R : zRf} {f C : zI} {len n j : Nat} {q : bSt × Int32} (hq : bread g R f C len 0 = q) (h2 : ¬ q.2 = -9) : bload g R f C len n j = (q.1, -2) := by
  subst hq
  exact if_neg h2
theorem bload_d {g : zG} {R : zRf} {f C : zI} {len n j : Nat} {q : bSt × Int32} (hq : bread g R f C len 0 = q) (h2 : q.2 = -9) : bload g R f C len n j = (bload2 q.1 n j, nI n) := by
  subst hq
  exact if_pos h2
def bloadV (b0 c : Nat) (q : bSt × Int32) (n j : Nat) : Prop := q.2 = -9 → (q.1.2.2.2 2 1 = nI n ∧ n ≤ 120 ∧ q.1.2.1 3 0 = some ((q.1.2.1 3 0).getD 0)) ∧ EO b0 (bloadG q.1 n) c ∧ llistV (bloadG q.1 n) q.1.2.1 (bloadF q.1 n) q.1.2.2.2 (bloadE q.1) j
theorem CF.lst0 {c : Nat} {g : zG} {R : zRf} {f C : zI} {e j : Nat} (h : CF c R) : CF c (llist g R f C e j).1 := CF.lru (f := f) j _ (CF.plan (S := (R, llini C)) h)
set_option maxRecDepth 20000 in
set_option maxHeartbeats 400000 in
theorem B_X11_load {l : Launch} {d : Nat} {D : zD} {b0 : Nat} {g : zG} {f C : zI} {R : zRf} {c : Nat} (hW : CW b0 g c) (hF : CF c R) (hw : zOK b0 zNo (gv c g R)) (len n j : Nat) (hln : C 0 1 = nI len) (hlen : len ≤ 120) (h6 : ∀ k, iv 7 (C 6 k)) (hE : EO b0 g c) (hV : bloadV b0 c (bread g R f C len 0) n j) (hd : 7 ≤ d) : zM l d D b0 mX11_load [.ref (c + 0)] (gv c g R) (cv c f C) (zCy b0 zNo c g (some (.int (bload g R f C len n j).2)) (bload g R f C len n j).1.1 (bload g R f C len n j).1.2.1 (bload g R f C len n j).1.2.2.1 (bload g R f C len n j).1.2.2.2 (3 * len + 4) (24 * len + 363)) := by
  refine zM.start zmd_X11_load (Nat.le_of_ble_eq_true rfl) ⟨rfl, trivial⟩ [some (.ref (c + 0)), none] rfl ?_
  refine z_aload0 dX11_load_0 ?_
  refine zc_getF (j := 0) hW fl_RX11_20 rfl (by decide) (hF _ (List.mem_of_getElem? (i := 1) rfl)) dX11_load_1 ?_
  refine z_aload0 dX11_load_4 ?_
  refine zc_getF (j := 0) hW fl_RX11_9 rfl (by decide) (hF _ (List.mem_of_getElem? (i := 0) rfl)) dX11_load_5 ?_
  refine z_aload0 dX11_load_8 ?_
  refine zc_getI (j := 0) hW fl_RX11_13 rfl dX11_load_9 ?_
  rw [hln]
  refine z_iconst (v := 0) dX11_load_12 (by decide) ?_
  refine z_callV zmd_X6_read rfl (by decide) zl_RX11_42 zin_X6_read zsel_X6_read (B_X6_read (d := d - 1) hW hF hw len _ hlen h6 hE (by omega)) (hW.i 2 rfl) rfl rfl (by omega) rfl dX11_load_13 (fun r1 g1 f1 mc1 ms1 q1 => ?_)
  obtain ⟨rfl, rfl, rfl, hc1, hs1, w1, k1, b1⟩ := q1
  have hcr : CF c (bread g R f C len 0).1.2.1 := hF.read
  have hvv := hV
  generalize hq : bread g R f C len 0 = q at w1 k1 b1 hvv hcr ⊢
  refine z_bipush (v := (-9)) dX11_load_16 (by decide) ?_
  refine z_icmp_eq (tgt := 24) dX11_load_18 (by decide) (fun c18 => ?_) (fun c18 => ?_)
  · show zS _ _ _ _ _ _ _ 24 _ _ _ _ _
    have hbW := b1
    have hn120 := (hvv c18).1.2.1
    have hN240 : llistN (bbdG q.1.1 q.1.2.1 n) q.1.2.1 (bbdF q.1.1 q.1.2.1 q.1.2.2.1 n) q.1.2.2.2 ((q.1.2.1 3 0).getD 0) j < 240 := (hvv c18).2.2.2.2
    rw [bload_d hq c18]
    refine z_aload0 dX11_load_24 ?_
    refine zc_getF (j := 0) b1 fl_RX11_20 rfl (by decide) (hcr _ (List.mem_of_getElem? (i := 1) rfl)) dX11_load_25 ?_
    refine z_callV zmd_X6_body rfl (by decide) zl_RX11_46 zin_X6_body zsel_X6_body (B_X6_body (d := d - 1) b1 hcr w1 n (hvv c18).1.1 (hvv c18).1.2.1 (hvv c18).1.2.2 (by omega)) (b1.i 2 rfl) rfl rfl (by omega) rfl dX11_load_28 (fun r2 g2 f2 mc2 ms2 q2 => ?_)
    obtain ⟨rfl, rfl, rfl, hc2, hs2, w2, k2, b2⟩ := q2
    have hbA := bbdG_all (R := q.1.2.1) (n := n) hbW
    have hbB := bbdG_in (R := q.1.2.1) (n := n) hbW
    refine z_astore1 dX11_load_31 ?_
    refine z_aload1 dX11_load_32 ?_
    refine z_aload0 dX11_load_33 ?_
    refine zc_getF (j := 0) b2 fl_RX11_27 rfl (by decide) (hcr _ (List.mem_of_getElem? (i := 2) rfl)) dX11_load_34 ?_
    refine z_aload1 dX11_load_37 ?_
    refine zd_getS w2 b2 fl_RX11_50 (bbdG_in hbW) (by decide) (by decide) (dbG_f _ _ _ _).1 dX11_load_38 (fun i3 => ?_)
    have hbW3 := b2
    refine z_callV zmd_X4_list rfl (by decide) zl_RX11_56 zin_X4_list zsel_X4_list (B_X4_list (d := d - 1) b2 hcr w2 _ j i3 (hvv c18).2.1 (hvv c18).2.2 (by omega)) (b2.i 9 rfl) rfl rfl (by omega) rfl dX11_load_41 (fun r4 g4 f4 mc4 ms4 q4 => ?_)
    obtain ⟨rfl, rfl, rfl, hc4, hs4, w4, k4, b4⟩ := q4
    refine zd_putS w4 b4 fl_RX11_60 (by decide) (Or.inr ⟨_, rfl⟩) ((bbdG_in hbW).le k4) (by decide) (zIn.self (n := llistN (bloadG q.1 n) q.1.2.1 (bloadF q.1 n) q.1.2.2.2 (bloadE q.1) j) (Nat.le_trans hbW3.1 (by have := hbW3.2.1; show c ≤ (bbdG q.1.1 q.1.2.1 n).1; omega)) : zIn b0 (znG (bloadG q.1 n) 13 _) (bloadG q.1 n).1 13) (by decide) dX11_load_44 (fun w5 => ?_)
    show zS _ _ _ _ _ _ _ 47 _ _ _ _ _
    refine z_aload0 dX11_load_47 ?_
    refine zc_getF (j := 0) b4 fl_RX11_34 rfl (by decide) ((hcr.lst0) _ (List.mem_of_getElem? (i := 3) rfl)) dX11_load_48 ?_
    refine z_aload1 dX11_load_51 ?_
    refine zc_putRs (j := 17) w5 b4 fl_RX11_63 rfl (by decide) (Or.inl ⟨_, rfl⟩) ((bbdG_in hbW).le k4) (by decide) dX11_load_52 (fun w6 => ?_)
    refine z_aload0 dX11_load_55 ?_
    refine zc_getF (j := 0) b4 fl_RX11_34 rfl (by decide) (((hcr.lst0).up (by decide)) _ (List.mem_of_getElem? (i := 3) rfl)) dX11_load_56 ?_
    refine z_callV zmd_X8_begin rfl (by decide) zl_RX11_67 zin_X8_begin zsel_X8_begin (B_X8_begin (d := d - 1) b4 ((hcr.lst0).up (by decide)) w6  (by omega)) (b4.i 17 rfl) rfl rfl (by omega) rfl dX11_load_59 (fun r7 g7 f7 mc7 ms7 q7 => ?_)
    obtain ⟨rfl, rfl, rfl, hc7, hs7, w7, k7, b7⟩ := q7
    refine z_aload1 dX11_load_62 ?_
    refine zd_getS w7 b7 fl_RX11_70 (((bbdG_in hbW).le k4).le k7) (by decide) (by decide) ((zpR_nf (Or.inr (by decide))).trans ((congrFun (zu1_ne _ _ _ (Nat.ne_of_lt hbB.2.1)) 1).trans (dbG_f _ _ _ _).2.1)) dX11_load_63 (fun i8 => ?_)
    refine z_alenN (hbA.1.le k4) (by decide) (k4.len hbA.1 hbA.2) dX11_load_66 ?_
    refine z_iret dX11_load_67 rfl ?_
    exact ⟨rfl, rfl, rfl, by omega, by omega, w7, (((k1.tr k2).tr k4).tr k7), b7⟩
  · show zS _ _ _ _ _ _ _ 21 _ _ _ _ _
    rw [bload_s hq c18]
    refine z_bipush (v := (-2)) dX11_load_21 (by decide) ?_
    refine z_iret dX11_load_23 rfl ?_
    exact ⟨rfl, rfl, rfl, by omega, by omega, w1, k1, b1⟩
