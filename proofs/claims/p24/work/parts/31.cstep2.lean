/-! The class's run: resume, leaving a clause, a step, over the block. -/
/-- the frames of array a up to k are pushed -/
def bresG (g : zG) (a : Nat) (R : zRf) (C : zI) : Nat → zRf × zI
  | 0 => (R, C)
  | k + 1 => (zup (bresG g a R C k).1 20 (tn ((bresG g a R C k).2 19 1)) (g.2.2.2 a k), bpushC (bresG g a R C k).2)
def bresuN (g : zG) (a : Nat) : Nat := g.2.2.1 (pA g a 1)
def bresu (g : zG) (R : zRf) (f C : zI) (r : Option Nat) : zRf × zI := match r with
  | none => (R, C)
  | some a => if 100 < C 19 1 + (nI (bresuN g a) - 1) then (R, C) else bresG g (pA g a 1) R (buse (bpopC C) f a) (bresuN g a)
def bresuA (g : zG) (C : zI) (r : Option Nat) : Int32 := match r with
  | none => 0
  | some a => if 100 < C 19 1 + (nI (bresuN g a) - 1) then 0 else 1
theorem bresu_t {g : zG} {R : zRf} {f C : zI} {a : Nat} (h : 100 < C 19 1 + (nI (bresuN g a) - 1)) : bresu g R f C (some a) = (R, C) := if_pos h
theorem bresu_f {g : zG} {R : zRf} {f C : zI} {a : Nat} (h : ¬ 100 < C 19 1 + (nI (bresuN g a) - 1)) : bresu g R f C (some a) = bresG g (pA g a 1) R (buse (bpopC C) f a) (bresuN g a) := if_neg h
theorem bresuA_t {g : zG} {C : zI} {a : Nat} (h : 100 < C 19 1 + (nI (bresuN g a) - 1)) : bresuA g C (some a) = 0 := if_pos h
theorem bresuA_f {g : zG} {C : zI} {a : Nat} (h : ¬ 100 < C 19 1 + (nI (bresuN g a) - 1)) : bresuA g C (some a) = 1 := if_neg h
/-- what a captured list is -/
def bresV (g : zG) (c : Nat) (a : Nat) : Prop := 1 ≤ bresuN g a ∧ bresuN g a ≤ 100 ∧ ¬ (c ≤ pA g a 1 ∧ pA g a 1 < c + 27) ∧ ∀ k, k < bresuN g a → g.2.2.2 (pA g a 1) k = some (pA g (pA g a 1) k)
theorem CF.resG {c : Nat} {g : zG} {a : Nat} {R : zRf} {C : zI} (h : CF c R) : ∀ k, CF c (bresG g a R C k).1
  | 0 => h
  | k + 1 => (CF.resG h k).push
theorem bpushC_d {C : zI} : bpushC C 19 1 = C 19 1 + 1 := by
  show zup (zup C 19 1 (C 19 1 + 1)) 19 2 _ 19 1 = _
  rw [zup_ne _ _ _ _ (by decide), zup_at]
theorem buse_r {C f : zI} {x r : Nat} (h1 : r ≠ 21) (h2 : r ≠ 22) : buse C f x r = C r := by
  unfold buse
  simp only
  split
  · split <;> simp only [zup_r h1, zup_r h2]
  · exact zup_r h1
theorem bpopC_d {C : zI} {dp : Nat} (h : C 19 1 = nI dp) (h1 : dp ≤ 100) (h0 : 1 ≤ dp) : bpopC C 19 1 = nI (dp - 1) := by
  have e : bpopC C = zup C 19 1 (C 19 1 - 1) := if_pos (by rw [h]; exact (nI_ltI (a := 0) (b := dp) (by decide) (by omega)).mpr h0)
  rw [e, zup_at]
  exact ixS h (ixC 1) h0
theorem bres_room {C : zI} {dp n : Nat} (h : C 19 1 = nI dp) (h1 : dp ≤ 100) (hn : 1 ≤ n) (h2 : n ≤ 100) (hc : ¬ 100 < C 19 1 + (nI n - 1)) : dp + (n - 1) ≤ 100 := by
  have e : C 19 1 + (nI n - 1) = nI (dp + (n - 1)) := ixA h (ixS rfl (ixC 1) hn)
  rw [e] at hc
  rcases Nat.lt_or_ge 100 (dp + (n - 1)) with q | q
  · exact absurd ((nI_ltI (a := 100) (b := dp + (n - 1)) (by decide) (by omega)).mpr q) hc
  · exact q
set_option maxRecDepth 20000 in
theorem Bl_X8_resume {l : Launch} {d : Nat} {D : zD} {b0 : Nat} {g : zG} {f C0 : zI} {R0 : zRf} {c : Nat} (hW : CW b0 g c) (a : Nat) (ha : zIn b0 g a 7) (hV : bresV g c a) (q : Nat) (hq : q + bresuN g a ≤ 100) (h0 : C0 19 1 = nI q) (c1 c2 : Nat) (hd : 2 ≤ d) : ∀ (m k : Nat) (R : zRf) (C : zI) (cs ns : Nat), k + m = bresuN g a → bresG g (pA g a 1) R0 C0 k = (R, C) → C 19 1 = nI (q + k) → CF c R → zOK b0 zNo (gv c g R) → cs ≤ c1 → ns ≤ c2 → zS l d D b0 mX8_resume cs ns 40 [some (.ref (c + 13)), some (.ref a), some (.int (nI k))] [] (gv c g R) (cv c f C) (zq D b0 (zCy b0 zNo c g (some (.int 1)) g (bresG g (pA g a 1) R0 C0 (bresuN g a)).1 f (bresG g (pA g a 1) R0 C0 (bresuN g a)).2 c1 c2)) := by
  intro m
  have hb := hV.2.1
  have hbe : bresuN g a = g.2.2.1 (pA g a 1) := rfl
  have hbv : ∀ R : zRf, (gv c g R).2.2.1 (pA g a 1) = g.2.2.1 (pA g a 1) := fun _ => rfl
  induction m with
  | zero =>
    intro k R C cs ns hk he h1 hF hw hcs hns
    obtain rfl : k = bresuN g a := hk
    show zS _ _ _ _ _ _ _ 40 _ _ _ _ _
    refine z_iload2 dX8_resume_40 ?_
    refine z_aload1 dX8_resume_41 ?_
    refine zd_getFr hw hW fl_RX8_270 ha (by decide) (fun h => h) (by decide) (by decide) dX8_resume_42 (fun e1 i1 => ?_)
    refine z_alenN i1 (by decide) rfl dX8_resume_45 ?_
    have hbr := hbv R
    refine z_icmp_ge (tgt := 68) dX8_resume_46 (by decide) (fun c46 => ?_) (fun c46 => ?_)
    · show zS _ _ _ _ _ _ _ 68 _ _ _ _ _
      refine z_iconst (v := 1) dX8_resume_68 (by decide) ?_
      refine z_iret dX8_resume_69 rfl ?_
      rw [he]
      exact ⟨rfl, rfl, rfl, by omega, by omega, hw, zLe.rf, hW⟩
    · exact absurd ((nI_ltI (by omega) (by omega)).mp c46) (by omega)
  | succ m ih =>
    intro k R C cs ns hk he h1 hF hw hcs hns
    have hkn : k < bresuN g a := by omega
    show zS _ _ _ _ _ _ _ 40 _ _ _ _ _
    refine z_iload2 dX8_resume_40 ?_
    refine z_aload1 dX8_resume_41 ?_
    refine zd_getFr hw hW fl_RX8_270 ha (by decide) (fun h => h) (by decide) (by decide) dX8_resume_42 (fun e1 i1 => ?_)
    refine z_alenN i1 (by decide) rfl dX8_resume_45 ?_
    have hbr := hbv R
    refine z_icmp_ge (tgt := 68) dX8_resume_46 (by decide) (fun c46 => ?_) (fun c46 => ?_)
    · exact absurd ((nI_ltI (by omega) (by omega)).mpr (by omega)) c46
    · show zS _ _ _ _ _ _ _ 49 _ _ _ _ _
      refine z_aload0 dX8_resume_49 ?_
      refine zc_getF (j := 17) hW fl_RX8_24 rfl (by decide) (hF _ (List.mem_of_getElem? (i := 19) rfl)) dX8_resume_50 ?_
      refine z_aload1 dX8_resume_53 ?_
      refine zd_getFr hw hW fl_RX8_270 ha (by decide) (fun h => h) (by decide) (by decide) dX8_resume_54 (fun e2 i2 => ?_)
      refine z_iload2 dX8_resume_57 ?_
      refine zd_alds (t' := 2) hw hV.2.2.1 i2 (by decide) rfl (rfl : nI k = nI k) (by omega) (by first | decide | omega) (fun _ => rfl) (by decide) (hV.2.2.2 k hkn) dX8_resume_58 (fun i3 => ?_)
      refine z_callV zmd_X10_push rfl (by decide) zl_RX8_172 zin_X10_push zsel_X10_push (B_X10_push (d := d - 1) hW hF hw _ i3 (by rw [h1]; exact iv_nI (N := 100) (by omega) (by decide)) (by omega)) (hW.i 19 rfl) rfl rfl (by omega) rfl dX8_resume_59 (fun r4 g4 f4 mc4 ms4 q4 => ?_)
      obtain ⟨rfl, rfl, rfl, hc4, hs4, w4, k4, b4⟩ := q4
      refine z_iinc2 (y := 1) dX8_resume_62 (by decide) ?_
      refine z_goto (tgt := 40) dX8_resume_65 (by decide) ?_
      rw [nI_1]
      exact ih (k + 1) _ _ _ _ (by omega) (by show (zup (bresG g (pA g a 1) R0 C0 k).1 20 (tn ((bresG g (pA g a 1) R0 C0 k).2 19 1)) (g.2.2.2 (pA g a 1) k), bpushC (bresG g (pA g a 1) R0 C0 k).2) = _; rw [he, hV.2.2.2 k hkn]) (by rw [bpushC_d]; exact (ixA h1 (ixC 1) : C 19 1 + 1 = nI (q + k + 1))) (hF.push) w4 (by omega) (by omega)
set_option maxRecDepth 20000 in
set_option maxHeartbeats 400000 in
theorem B_X8_resume {l : Launch} {d : Nat} {D : zD} {b0 : Nat} {g : zG} {f C : zI} {R : zRf} {c : Nat} (hW : CW b0 g c) (hF : CF c R) (hw : zOK b0 zNo (gv c g R)) (r : Option Nat) (hr : ∀ b, r = some b → zIn b0 g b 7) (dp : Nat) (hdp : C 19 1 = nI dp) (h100 : dp ≤ 100) (hd1 : 1 ≤ dp) (hV : ∀ a, r = some a → bresV g c a) (hd : 2 ≤ d) : zM l d D b0 mX8_resume [.ref (c + 13), va_rf r] (gv c g R) (cv c f C) (zCy b0 zNo c g (some (.int (bresuA g C r))) g (bresu g R f C r).1 f (bresu g R f C r).2 0 0) := by
  refine zM.start zmd_X8_resume (Nat.le_of_ble_eq_true rfl) ⟨rfl, zcat_o _, trivial⟩ [some (.ref (c + 13)), some (va_rf r), none] rfl ?_
  refine z_aload1 dX8_resume_0 ?_
  refine z_ifnull (tgt := 21) dX8_resume_1 (by decide) (fun c1 => ?_) (fun a1 c1 => ?_)
  · show zS _ _ _ _ _ _ _ 21 _ _ _ _ _
    refine z_iconst (v := 0) dX8_resume_21 (by decide) ?_
    refine z_iret dX8_resume_22 rfl ?_
    subst c1
    exact ⟨rfl, rfl, rfl, by omega, by omega, hw, zLe.rf, hW⟩
  · show zS _ _ _ _ _ _ _ 4 _ _ _ _ _
    subst c1
    have hb := hr _ rfl
    have hv := hV _ rfl
    refine z_aload0 dX8_resume_4 ?_
    refine zc_getF (j := 17) hW fl_RX8_24 rfl (by decide) (hF _ (List.mem_of_getElem? (i := 19) rfl)) dX8_resume_5 ?_
    refine z_aload1 dX8_resume_8 ?_
    refine zd_getFr hw hW fl_RX8_270 hb (by decide) (fun h => h) (by decide) (by decide) dX8_resume_9 (fun e1 i1 => ?_)
    refine z_alenN i1 (by decide) rfl dX8_resume_12 ?_
    refine z_iconst (v := 1) dX8_resume_13 (by decide) ?_
    refine z_isub dX8_resume_14 ?_
    refine z_callVi zmd_X10_hasRoomFor rfl (by decide) zl_RX8_185 zin_X10_hasRoomFor zsel_X10_hasRoomFor (B_X10_hasRoomFor (d := d - 1) hW hF hw _) (hW.i 19 rfl) rfl rfl (by omega) rfl dX8_resume_15 ?_
    refine z_if_ne (tgt := 23) dX8_resume_18 (by decide) (fun c18 => ?_) (fun c18 => ?_)
    · show zS _ _ _ _ _ _ _ 23 _ _ _ _ _
      have hrm := zB_t c18
      have hr1 := bres_room hdp h100 hv.1 hv.2.1 hrm
      rw [bresu_f hrm, bresuA_f hrm]
      refine z_aload0 dX8_resume_23 ?_
      refine zc_getF (j := 17) hW fl_RX8_24 rfl (by decide) (hF _ (List.mem_of_getElem? (i := 19) rfl)) dX8_resume_24 ?_
      refine z_callV zmd_X10_pop rfl (by decide) zl_RX8_209 zin_X10_pop zsel_X10_pop (B_X10_pop (d := d - 1) hW hF hw ) (hW.i 19 rfl) rfl rfl (by omega) rfl dX8_resume_27 (fun r3 g3 f3 mc3 ms3 q3 => ?_)
      obtain ⟨rfl, rfl, rfl, hc3, hs3, w3, k3, b3⟩ := q3
      refine z_aload0 dX8_resume_30 ?_
      refine zc_getF (j := 17) b3 fl_RX8_31 rfl (by decide) (hF _ (List.mem_of_getElem? (i := 20) rfl)) dX8_resume_31 ?_
      refine z_aload1 dX8_resume_34 ?_
      refine z_callV zmd_X3_use rfl (by decide) zl_RX8_275 zin_X3_use zsel_X3_use (B_X3_use (d := d - 1) b3 hF w3 _ (hb.le k3) (by omega)) (b3.i 21 rfl) rfl rfl (by omega) rfl dX8_resume_35 (fun r4 g4 f4 mc4 ms4 q4 => ?_)
      obtain ⟨rfl, rfl, rfl, hc4, hs4, w4, k4, b4⟩ := q4
      refine z_iconst (v := 0) dX8_resume_38 (by decide) ?_
      refine z_istore2 dX8_resume_39 ?_
      exact Bl_X8_resume b4 _ hb hv (dp - 1) (by omega) (by rw [buse_r (by decide) (by decide)]; exact bpopC_d hdp h100 hd1) _ _ hd _ 0 _ _ _ _ (Nat.zero_add _) rfl (by rw [buse_r (by decide) (by decide)]; exact bpopC_d hdp h100 hd1) hF w4 (by omega) (by omega)
    · show zS _ _ _ _ _ _ _ 21 _ _ _ _ _
      refine z_iconst (v := 0) dX8_resume_21 (by decide) ?_
      refine z_iret dX8_resume_22 rfl ?_
      have hrm := Classical.not_not.mp (zB_f c18)
      rw [bresu_t hrm, bresuA_t hrm]
      exact ⟨rfl, rfl, rfl, by omega, by omega, hw, zLe.rf, hW⟩
theorem CF.resu {c : Nat} {g : zG} {R : zRf} {f C : zI} {r : Option Nat} (h : CF c R) : CF c (bresu g R f C r).1 := by
  cases r with
  | none => exact h
  | some a =>
    by_cases q : 100 < C 19 1 + (nI (bresuN g a) - 1)
    · rw [bresu_t q]; exact h
    · rw [bresu_f q]; exact CF.resG h _
theorem bvisC_r {C : zI} {g : zG} {f : zI} {a r : Nat} (h1 : r ≠ 13) (h2 : r ≠ 15) (h3 : r ≠ 16) : bvisC C g f a r = C r := by
  unfold bvisC
  simp only [zup_r h1, zup_r h2, zup_r h3]
theorem bvisit_r {C : zI} {R : zRf} {g : zG} {f : zI} {x : Option Nat} {r : Nat} (h1 : r ≠ 13) (h2 : r ≠ 15) (h3 : r ≠ 16) : (bvisit C R g f x).1 r = C r := by
  cases x with
  | none => rfl
  | some a =>
    unfold bvisit
    simp only
    split
    · exact bvisC_r h1 h2 h3
    · rfl
theorem bfs_r {g : zG} {f : zI} {r : Nat} (h1 : r ≠ 13) (h2 : r ≠ 15) (h3 : r ≠ 16) : ∀ (j : Nat) (C : zI) (R : zRf), (bfs g f j C R).2.1 r = C r := by
  intro j
  induction j with
  | zero => intro C R; rfl
  | succ j ih =>
    intro C R
    have hB : bfsB C r = C r := zup_r h2
    unfold bfs
    split
    · rfl
    · split
      · rw [ih, zup_r h1]
      · split
        · exact hB
        · split
          · rw [ih, bvisit_r h1 h2 h3, hB]
          · rw [ih, hB]
theorem bfirst_r {g : zG} {f C : zI} {R : zRf} {x : Option Nat} {r : Nat} (h1 : r ≠ 13) (h2 : r ≠ 15) (h3 : r ≠ 16) : (bfirst g f C R x).2.1 r = C r := by
  show (bfs g f bfuel _ _).2.1 r = C r
  rw [bfs_r h1 h2 h3, bvisit_r h1 h2 h3]
  show zup (zup C 13 4 _) 13 2 _ r = C r
  rw [zup_r h1, zup_r h1]
/-- the clause of a resumption is left -/
def blcl (g : zG) (R : zRf) (f C : zI) (x : Nat) : bSt := match (bfirst g f C R (g.2.2.2 x 4)).1 with
  | none => (g, (bfirst g f C R (g.2.2.2 x 4)).2.2, f, bpopC (bfirst g f C R (g.2.2.2 x 4)).2.1)
  | some y => if 100 < (bfirst g f C R (g.2.2.2 x 4)).2.1 19 1 + 1 then (g, (bfirst g f C R (g.2.2.2 x 4)).2.2, f, (bfirst g f C R (g.2.2.2 x 4)).2.1) else bexe g (bfirst g f C R (g.2.2.2 x 4)).2.2 f (bfirst g f C R (g.2.2.2 x 4)).2.1 y
def blclA (g : zG) (R : zRf) (f C : zI) (x : Nat) : Int32 := match (bfirst g f C R (g.2.2.2 x 4)).1 with
  | none => 1
  | some _ => if 100 < (bfirst g f C R (g.2.2.2 x 4)).2.1 19 1 + 1 then 0 else 1
theorem blcl_n {g : zG} {R : zRf} {f C : zI} {x : Nat} {q : Option Nat × zI × zRf} (hq : bfirst g f C R (g.2.2.2 x 4) = q) (h : q.1 = none) : blcl g R f C x = (g, q.2.2, f, bpopC q.2.1) ∧ blclA g R f C x = 1 := by
  unfold blcl blclA; rw [hq, h]; exact ⟨rfl, rfl⟩
theorem blcl_t {g : zG} {R : zRf} {f C : zI} {x y : Nat} {q : Option Nat × zI × zRf} (hq : bfirst g f C R (g.2.2.2 x 4) = q) (h : q.1 = some y) (k : 100 < q.2.1 19 1 + 1) : blcl g R f C x = (g, q.2.2, f, q.2.1) ∧ blclA g R f C x = 0 := by
  unfold blcl blclA; rw [hq, h]; exact ⟨if_pos k, if_pos k⟩
theorem blcl_f {g : zG} {R : zRf} {f C : zI} {x y : Nat} {q : Option Nat × zI × zRf} (hq : bfirst g f C R (g.2.2.2 x 4) = q) (h : q.1 = some y) (k : ¬ 100 < q.2.1 19 1 + 1) : blcl g R f C x = bexe g q.2.2 f q.2.1 y ∧ blclA g R f C x = 1 := by
  unfold blcl blclA; rw [hq, h]; exact ⟨if_neg k, if_neg k⟩
theorem CF.lcl {c : Nat} {g : zG} {R : zRf} {f C : zI} {x : Nat} (h : CF c R) : CF c (blcl g R f C x).2.1 := by
  cases hq : (bfirst g f C R (g.2.2.2 x 4)).1 with
  | none => rw [(blcl_n rfl hq).1]; exact h.first
  | some y =>
    by_cases k : 100 < (bfirst g f C R (g.2.2.2 x 4)).2.1 19 1 + 1
    · rw [(blcl_t rfl hq k).1]; exact h.first
    · rw [(blcl_f rfl hq k).1]; exact h.first.exe
theorem iv_room {C : zI} {dp : Nat} (h : C 19 1 = nI dp) (h1 : dp ≤ 100) (k : ¬ 100 < C 19 1 + 1) : iv 100 (C 19 1) := by
  have e : C 19 1 + 1 = nI (dp + 1) := ixA h (ixC 1)
  rw [e] at k
  rw [h]
  refine iv_nI ?_ (by decide)
  rcases Nat.lt_or_ge dp 100 with q | q
  · exact q
  · exact absurd ((nI_ltI (a := 100) (b := dp + 1) (by decide) (by omega)).mpr (by omega)) k
def bfP (b0 : Nat) (g : zG) (r : Option Nat) : Prop := ∀ y, r = some y → zIn b0 g y 2 ∧ g.2.2.2 y 1 = some (pA g y 1)
set_option maxRecDepth 20000 in
set_option maxHeartbeats 400000 in
theorem B_X8_leaveClause {l : Launch} {d : Nat} {D : zD} {b0 : Nat} {g : zG} {f C : zI} {R : zRf} {c : Nat} (hW : CW b0 g c) (hF : CF c R) (hw : zOK b0 zNo (gv c g R)) (x : Nat) (hx : zIn b0 g x 2) (dp : Nat) (hdp : C 19 1 = nI dp) (h100 : dp ≤ 100) (hV : bfirstV g f c C R (g.2.2.2 x 4)) (hP : bfP b0 g (bfirst g f C R (g.2.2.2 x 4)).1) (hd : 4 ≤ d) : zM l d D b0 mX8_leaveClause [.ref (c + 13), .ref x] (gv c g R) (cv c f C) (zCy b0 zNo c g (some (.int (blclA g R f C x))) (blcl g R f C x).1 (blcl g R f C x).2.1 (blcl g R f C x).2.2.1 (blcl g R f C x).2.2.2 1 5) := by
  refine zM.start zmd_X8_leaveClause (Nat.le_of_ble_eq_true rfl) ⟨rfl, rfl, trivial⟩ [some (.ref (c + 13)), some (.ref x), none] rfl ?_
  refine z_aload0 dX8_leaveClause_0 ?_
  refine zc_getF (j := 17) hW fl_RX8_45 rfl (by decide) (hF _ (List.mem_of_getElem? (i := 23) rfl)) dX8_leaveClause_1 ?_
  refine z_aload1 dX8_leaveClause_4 ?_
  refine zd_getN hw hW fl_RX8_123 hx (by decide) (by decide) dX8_leaveClause_5 (fun i1 => ?_)
  refine z_aload0 dX8_leaveClause_8 ?_
  refine zc_getF (j := 17) hW fl_RX8_31 rfl (by decide) (hF _ (List.mem_of_getElem? (i := 20) rfl)) dX8_leaveClause_9 ?_
  refine z_callV zmd_X5_first rfl (by decide) zl_RX8_279 zin_X5_first zsel_X5_first (B_X5_first (d := d - 1) hW hF hw _ i1 hV (by omega)) (hW.i 13 rfl) rfl rfl (by omega) rfl dX8_leaveClause_12 (fun r2 g2 f2 mc2 ms2 q2 => ?_)
  obtain ⟨rfl, rfl, rfl, hc2, hs2, w2, k2, b2⟩ := q2
  have h19 : (bfirst g f C R (g.2.2.2 x 4)).2.1 19 1 = nI dp := by rw [bfirst_r (by decide) (by decide) (by decide)]; exact hdp
  refine z_astore2 dX8_leaveClause_15 ?_
  refine z_aload2 dX8_leaveClause_16 ?_
  refine z_ifnonnull (tgt := 29) dX8_leaveClause_17 (by decide) (fun a17 c17 => ?_) (fun c17 => ?_)
  · show zS _ _ _ _ _ _ _ 29 _ _ _ _ _
    rw [c17]
    refine z_aload0 dX8_leaveClause_29 ?_
    refine zc_getF (j := 17) b2 fl_RX8_24 rfl (by decide) ((hF.first) _ (List.mem_of_getElem? (i := 19) rfl)) dX8_leaveClause_30 ?_
    refine z_iconst (v := 1) dX8_leaveClause_33 (by decide) ?_
    refine z_callVi zmd_X10_hasRoomFor rfl (by decide) zl_RX8_185 zin_X10_hasRoomFor zsel_X10_hasRoomFor (B_X10_hasRoomFor (d := d - 1) b2 (hF.first) w2 _) (b2.i 19 rfl) rfl rfl (by omega) rfl dX8_leaveClause_34 ?_
    refine z_if_ne (tgt := 42) dX8_leaveClause_37 (by decide) (fun c37 => ?_) (fun c37 => ?_)
    · show zS _ _ _ _ _ _ _ 42 _ _ _ _ _
      obtain ⟨eS, eA⟩ := blcl_f rfl c17 (zB_t c37)
      rw [eS, eA]
      refine z_aload0 dX8_leaveClause_42 ?_
      refine z_aload2 dX8_leaveClause_43 ?_
      refine z_callV zmd_X8_execute rfl (by decide) zl_RX8_237 zin_X8_execute zsel_X8_execute (B_X8_execute (d := d - 1) b2 (hF.first) w2 _ (hP _ c17).1 (hP _ c17).2 (iv_room h19 h100 (zB_t c37)) (by omega)) (b2.i 17 rfl) rfl rfl (by omega) rfl dX8_leaveClause_44 (fun r4 g4 f4 mc4 ms4 q4 => ?_)
      obtain ⟨rfl, rfl, rfl, hc4, hs4, w4, k4, b4⟩ := q4
      refine z_iconst (v := 1) dX8_leaveClause_47 (by decide) ?_
      refine z_iret dX8_leaveClause_48 rfl ?_
      exact ⟨rfl, rfl, rfl, by omega, by omega, w4, (k2.tr k4), b4⟩
    · show zS _ _ _ _ _ _ _ 40 _ _ _ _ _
      refine z_iconst (v := 0) dX8_leaveClause_40 (by decide) ?_
      obtain ⟨eS, eA⟩ := blcl_t rfl c17 (Classical.not_not.mp (zB_f c37))
      rw [eS, eA]
      refine z_iret dX8_leaveClause_41 rfl ?_
      exact ⟨rfl, rfl, rfl, by omega, by omega, w2, k2, b2⟩
  · show zS _ _ _ _ _ _ _ 20 _ _ _ _ _
    obtain ⟨eS, eA⟩ := blcl_n rfl c17
    rw [eS, eA]
    refine z_aload0 dX8_leaveClause_20 ?_
    refine zc_getF (j := 17) b2 fl_RX8_24 rfl (by decide) ((hF.first) _ (List.mem_of_getElem? (i := 19) rfl)) dX8_leaveClause_21 ?_
    refine z_callV zmd_X10_pop rfl (by decide) zl_RX8_209 zin_X10_pop zsel_X10_pop (B_X10_pop (d := d - 1) b2 (hF.first) w2 ) (b2.i 19 rfl) rfl rfl (by omega) rfl dX8_leaveClause_24 (fun r5 g5 f5 mc5 ms5 q5 => ?_)
    obtain ⟨rfl, rfl, rfl, hc5, hs5, w5, k5, b5⟩ := q5
    refine z_iconst (v := 1) dX8_leaveClause_27 (by decide) ?_
    refine z_iret dX8_leaveClause_28 rfl ?_
    exact ⟨rfl, rfl, rfl, by omega, by omega, w5, (k2.tr k5), b5⟩
