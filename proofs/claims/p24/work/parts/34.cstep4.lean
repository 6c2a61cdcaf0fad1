/-! The class's run: a step, its begin, its counts, what a frame shows, over the block. -/
/-- the end of a step -/
def bfin (q : bSt × Int32) : bSt := if q.2 = 0 then (q.1.1, q.1.2.1, q.1.2.2.1, zup q.1.2.2.2 17 2 4) else (q.1.1, q.1.2.1, q.1.2.2.1, bend (zup q.1.2.2.2 17 3 (q.1.2.2.2 17 3 + 1)) q.1.2.1)
def bstep0 (g : zG) (R : zRf) (f C : zI) (k dp : Nat) : bSt × Int32 := match R 17 4 with
  | some e => binto g R f C e k
  | none => bout g R f C dp (bbelow C R 0)
def bstep (g : zG) (R : zRf) (f C : zI) (k dp : Nat) : bSt := bfin (bstep0 g R f C k dp)
theorem bstep0_s {g : zG} {R : zRf} {f C : zI} {k dp e : Nat} (h : R 17 4 = some e) : bstep0 g R f C k dp = binto g R f C e k := by unfold bstep0; rw [h]
theorem bstep0_n {g : zG} {R : zRf} {f C : zI} {k dp : Nat} (h : R 17 4 = none) : bstep0 g R f C k dp = bout g R f C dp (bbelow C R 0) := by unfold bstep0; rw [h]
theorem bfin_0 {q : bSt × Int32} (h : q.2 = 0) : bfin q = (q.1.1, q.1.2.1, q.1.2.2.1, zup q.1.2.2.2 17 2 4) := if_pos h
theorem bfin_1 {q : bSt × Int32} (h : ¬ q.2 = 0) : bfin q = (q.1.1, q.1.2.1, q.1.2.2.1, bend (zup q.1.2.2.2 17 3 (q.1.2.2.2 17 3 + 1)) q.1.2.1) := if_neg h
theorem CF.step {c : Nat} {g : zG} {R : zRf} {f C : zI} {k dp : Nat} (h : CF c R) : CF c (bstep g R f C k dp).2.1 := by
  have e : (bstep g R f C k dp).2.1 = (bstep0 g R f C k dp).1.2.1 := by
    unfold bstep bfin
    split <;> rfl
  rw [e]
  cases q : R 17 4 with
  | none => rw [bstep0_n q]; exact h.out
  | some e => rw [bstep0_s q]; exact h.into
theorem bbelow_in {b0 : Nat} {g : zG} {R : zRf} {C : zI} {c : Nat} {X : Nat → Prop} {k : Int32} (hw : zOK b0 X (gv c g R)) (hW : CW b0 g c) (hdp : iv 101 (C 19 1)) : ∀ b, bbelow C R k = some b → zIn b0 g b 2 := by
  intro b hb
  unfold bbelow at hb
  split at hb
  · exact hw.get (t := 15) (hW.i 20 rfl).gv rfl (by decide) (by rw [gv_at (by decide)]; exact hb)
  · cases hb
theorem bbelow_pos {R : zRf} {C : zI} {dp : Nat} (hdp : C 19 1 = nI dp) (h : dp ≤ 100) : bbelow C R 0 ≠ none → 1 ≤ dp := by
  intro hq
  by_cases h0 : dp = 0
  · subst h0
    exfalso
    apply hq
    unfold bbelow
    rw [hdp]
    exact if_neg (fun q => absurd q.2 (by decide))
  · omega
/-- what the walk of a step needs; variables are looked up with fuel k -/
def bstepV (b0 : Nat) (g : zG) (R : zRf) (f C : zI) (c k dp : Nat) : Prop :=
  (∀ e, R 17 4 = some e → (f e 0 = 97 → blookV g f (f e 1) k (R 17 5))) ∧
  (R 17 4 = none → ∀ x, bbelow C R 0 = some x → boutV b0 g R f C c dp x)
/-- the slots that a step costs -/
def bstepc (g : zG) (R : zRf) (f C : zI) (dp : Nat) : Nat := match R 17 4 with
  | some e => bintoc f e
  | none => boutc g R f dp (bbelow C R 0)
theorem bstepc_s {g : zG} {R : zRf} {f C : zI} {dp e : Nat} (h : R 17 4 = some e) : bstepc g R f C dp = bintoc f e := by unfold bstepc; rw [h]
theorem bstepc_n {g : zG} {R : zRf} {f C : zI} {dp : Nat} (h : R 17 4 = none) : bstepc g R f C dp = boutc g R f dp (bbelow C R 0) := by unfold bstepc; rw [h]
set_option maxRecDepth 20000 in
set_option maxHeartbeats 400000 in
theorem B_X8_step {l : Launch} {d : Nat} {D : zD} {b0 : Nat} {g : zG} {f C : zI} {R : zRf} {c : Nat} (hW : CW b0 g c) (hF : CF c R) (hw : zOK b0 zNo (gv c g R)) (k dp : Nat) (hdp : C 19 1 = nI dp) (h100 : dp ≤ 100) (ht : iv 61 (C 17 11)) (hV : bstepV b0 g R f C c k dp) (hd : 6 ≤ d) : zM l d D b0 mX8_step [.ref (c + 13)] (gv c g R) (cv c f C) (zCy b0 zNo c g none (bstep g R f C k dp).1 (bstep g R f C k dp).2.1 (bstep g R f C k dp).2.2.1 (bstep g R f C k dp).2.2.2 (min 4 (bstepc g R f C dp / 5)) (bstepc g R f C dp)) := by
  have hdp101 : iv 101 (C 19 1) := by rw [hdp]; exact iv_nI (by omega) (by decide)
  refine zM.start zmd_X8_step (Nat.le_of_ble_eq_true rfl) ⟨rfl, trivial⟩ [some (.ref (c + 13)), none] rfl ?_
  refine z_aload0 dX8_step_0 ?_
  refine zc_getN (j := 17) hw hW fl_RX8_56 rfl (by decide) dX8_step_1 (fun i1 => ?_)
  refine z_ifnull (tgt := 18) dX8_step_4 (by decide) (fun c4 => ?_) (fun a4 c4 => ?_)
  · show zS _ _ _ _ _ _ _ 18 _ _ _ _ _
    refine z_aload0 dX8_step_18 ?_
    refine z_aload0 dX8_step_19 ?_
    refine zc_getF (j := 17) hW fl_RX8_24 rfl (by decide) (hF _ (List.mem_of_getElem? (i := 19) rfl)) dX8_step_20 ?_
    refine z_iconst (v := 0) dX8_step_23 (by decide) ?_
    refine z_callV zmd_X10_below rfl (by decide) zl_RX8_147 zin_X10_below zsel_X10_below (B_X10_below (d := d - 1) hW hF hw _ hdp101) (hW.i 19 rfl) rfl rfl (by omega) rfl dX8_step_24 (fun r2 g2 f2 mc2 ms2 q2 => ?_)
    obtain ⟨rfl, rfl, rfl, rfl, rfl⟩ := q2
    refine z_callV zmd_X8_stepOut rfl (by decide) zl_RX8_151 zin_X8_stepOut zsel_X8_stepOut (B_X8_stepOut (d := d - 1) hW hF hw _ (bbelow_in hw hW hdp101) dp hdp h100 (bbelow_pos hdp h100) ht (hV.2 c4) (by omega)) (hW.i 17 rfl) rfl rfl (by omega) rfl dX8_step_27 (fun r3 g3 f3 mc3 ms3 q3 => ?_)
    obtain ⟨rfl, rfl, rfl, hc3, hs3, w3, k3, b3⟩ := q3
    refine z_istore1 dX8_step_30 ?_
    refine z_iload1 dX8_step_31 ?_
    refine z_if_ne (tgt := 41) dX8_step_32 (by decide) (fun c32 => ?_) (fun c32 => ?_)
    · show zS _ _ _ _ _ _ _ 41 _ _ _ _ _
      refine z_aload0 dX8_step_41 ?_
      refine z_dup dX8_step_42 ?_
      refine zc_getI (j := 17) b3 fl_RX8_53 rfl dX8_step_43 ?_
      refine z_iconst (v := 1) dX8_step_46 (by decide) ?_
      refine z_iadd dX8_step_47 ?_
      refine zc_putI (j := 17) b3 fl_RX8_53 rfl dX8_step_48 ?_
      refine z_aload0 dX8_step_51 ?_
      refine z_callV zmd_X8_endIfDue rfl (by decide) zl_RX8_155 zin_X8_endIfDue zsel_X8_endIfDue (B_X8_endIfDue (d := d - 1) b3 (hF.out) w3 ) (b3.i 17 rfl) rfl rfl (by omega) rfl dX8_step_52 (fun r4 g4 f4 mc4 ms4 q4 => ?_)
      obtain ⟨rfl, rfl, rfl, hc4, hs4, w4, k4, b4⟩ := q4
      refine z_ret dX8_step_55 rfl ?_
      rw [show bstep g R f C k dp = _ from (congrArg bfin (bstep0_n c4)).trans (bfin_1 c32), bstepc_n c4]
      exact ⟨rfl, rfl, rfl, by omega, by omega, w4, (k3.tr k4), b4⟩
    · show zS _ _ _ _ _ _ _ 35 _ _ _ _ _
      refine z_aload0 dX8_step_35 ?_
      refine z_iconst (v := 4) dX8_step_36 (by decide) ?_
      refine zc_putI (j := 17) b3 fl_RX8_17 rfl dX8_step_37 ?_
      refine z_ret dX8_step_40 rfl ?_
      rw [show bstep g R f C k dp = _ from (congrArg bfin (bstep0_n c4)).trans (bfin_0 c32), bstepc_n c4]
      exact ⟨rfl, rfl, rfl, by omega, by omega, w3, k3, b3⟩
  · show zS _ _ _ _ _ _ _ 7 _ _ _ _ _
    refine z_aload0 dX8_step_7 ?_
    refine z_aload0 dX8_step_8 ?_
    refine zc_getS (j := 17) hw hW fl_RX8_56 rfl (by decide) c4 dX8_step_9 (fun i5 => ?_)
    refine z_callV zmd_X8_stepInto rfl (by decide) zl_RX8_143 zin_X8_stepInto zsel_X8_stepInto (B_X8_stepInto (d := d - 1) hW hF hw _ k i5 dp hdp h100 (hV.1 _ c4) (by omega)) (hW.i 17 rfl) rfl rfl (by omega) rfl dX8_step_12 (fun r6 g6 f6 mc6 ms6 q6 => ?_)
    obtain ⟨rfl, rfl, rfl, hc6, hs6, w6, k6, b6⟩ := q6
    refine z_goto (tgt := 30) dX8_step_15 (by decide) ?_
    show zS _ _ _ _ _ _ _ 30 _ _ _ _ _
    refine z_istore1 dX8_step_30 ?_
    refine z_iload1 dX8_step_31 ?_
    refine z_if_ne (tgt := 41) dX8_step_32 (by decide) (fun c32 => ?_) (fun c32 => ?_)
    · show zS _ _ _ _ _ _ _ 41 _ _ _ _ _
      refine z_aload0 dX8_step_41 ?_
      refine z_dup dX8_step_42 ?_
      refine zc_getI (j := 17) b6 fl_RX8_53 rfl dX8_step_43 ?_
      refine z_iconst (v := 1) dX8_step_46 (by decide) ?_
      refine z_iadd dX8_step_47 ?_
      refine zc_putI (j := 17) b6 fl_RX8_53 rfl dX8_step_48 ?_
      refine z_aload0 dX8_step_51 ?_
      refine z_callV zmd_X8_endIfDue rfl (by decide) zl_RX8_155 zin_X8_endIfDue zsel_X8_endIfDue (B_X8_endIfDue (d := d - 1) b6 (hF.into) w6 ) (b6.i 17 rfl) rfl rfl (by omega) rfl dX8_step_52 (fun r7 g7 f7 mc7 ms7 q7 => ?_)
      obtain ⟨rfl, rfl, rfl, hc7, hs7, w7, k7, b7⟩ := q7
      refine z_ret dX8_step_55 rfl ?_
      rw [show bstep g R f C k dp = _ from (congrArg bfin (bstep0_s c4)).trans (bfin_1 c32), bstepc_s c4]
      exact ⟨rfl, rfl, rfl, by omega, by omega, w7, (k6.tr k7), b7⟩
    · show zS _ _ _ _ _ _ _ 35 _ _ _ _ _
      refine z_aload0 dX8_step_35 ?_
      refine z_iconst (v := 4) dX8_step_36 (by decide) ?_
      refine zc_putI (j := 17) b6 fl_RX8_17 rfl dX8_step_37 ?_
      refine z_ret dX8_step_40 rfl ?_
      rw [show bstep g R f C k dp = _ from (congrArg bfin (bstep0_s c4)).trans (bfin_0 c32), bstepc_s c4]
      exact ⟨rfl, rfl, rfl, by omega, by omega, w6, k6, b6⟩
theorem cv_row2 {c : Nat} {f C : zI} {j : Nat} {r : Nat → Int32} (h : j < 27) : zu1 (cv c f C) (c + bP j) r = cv c f (zu1 C j r) := cv_row h
def kfill (f : zI) (a n : Nat) (x : Int32) : zI := zu1 f a (fun k => if k < n then x else f a k)
theorem kfill_0 (f : zI) (a : Nat) (x : Int32) : kfill f a 0 x = f := by
  funext b
  unfold kfill
  by_cases h : b = a
  · subst h
    rw [zu1_at]
    funext k
    exact if_neg (Nat.not_lt_zero k)
  · rw [zu1_ne _ _ _ h]
theorem kfill_s (f : zI) (a n : Nat) (x : Int32) : zup (kfill f a n x) a n x = kfill f a (n + 1) x := by
  funext b k
  unfold kfill
  by_cases h : b = a
  · subst h
    by_cases h2 : k = n
    · subst h2
      rw [zup_at, zu1_at, if_pos (Nat.lt_succ_self _)]
    · rw [zup_ne _ _ _ _ (Or.inr h2), zu1_at, zu1_at]
      by_cases h3 : k < n
      · rw [if_pos h3, if_pos (by omega)]
      · rw [if_neg h3, if_neg (by omega)]
  · rw [zup_ne _ _ _ _ (Or.inl h), zu1_ne _ _ _ h, zu1_ne _ _ _ h]
set_option maxRecDepth 20000 in
theorem Kl_fill {l : Launch} {d : Nat} {D : zD} {b0 : Nat} {g : zG} {f : zI} (a n : Nat) (x : Int32) (ha : zIn b0 g a 13) (hn : g.2.2.1 a = n) (hb : n < 2 ^ 31) : ∀ (j k : Nat), k + j = n → zS l d D b0 mJ7_fill_53178 0 0 5 [some (.ref a), some (.int x), some (.int (nI k)), some (.int (nI n))] [] g (kfill f a k x) (zq D b0 (zEx none g (kfill f a n x))) := by
  intro j
  induction j with
  | zero =>
    intro k hk
    obtain rfl : k = n := by omega
    refine z_iload2 dJ7_fill_53178_5 ?_
    refine z_iload3 dJ7_fill_53178_6 ?_
    refine z_icmp_ge (tgt := 20) dJ7_fill_53178_7 (by decide) (fun c7 => ?_) (fun c7 => absurd c7 (nI_nlt (by omega) (by omega)))
    refine z_ret dJ7_fill_53178_20 rfl ?_
    exact ⟨rfl, rfl, rfl, rfl, rfl⟩
  | succ j ih =>
    intro k hk
    refine z_iload2 dJ7_fill_53178_5 ?_
    refine z_iload3 dJ7_fill_53178_6 ?_
    refine z_icmp_ge (tgt := 20) dJ7_fill_53178_7 (by decide) (fun c7 => absurd (nI_lt (by omega) (by omega)) c7) (fun c7 => ?_)
    refine z_aload0 dJ7_fill_53178_10 ?_
    refine z_iload2 dJ7_fill_53178_11 ?_
    refine z_iload1 dJ7_fill_53178_12 ?_
    refine z_iastE (j := k) ha hn rfl (by omega) hb dJ7_fill_53178_13 ?_
    refine z_iinc2 (y := 1) dJ7_fill_53178_14 (by decide) ?_
    refine z_goto (tgt := 5) dJ7_fill_53178_17 (by decide) ?_
    rw [nI_1, kfill_s]
    exact ih (k + 1) (by omega)
set_option maxRecDepth 20000 in
theorem K_J7_fill {l : Launch} {d : Nat} {D : zD} {b0 : Nat} {g : zG} {f : zI} (a n : Nat) (x : Int32) (ha : zIn b0 g a 13) (hn : g.2.2.1 a = n) (hb : n < 2 ^ 31) : zM l d D b0 mJ7_fill_53178 [.ref a, .int x] g f (zEx none g (kfill f a n x)) := by
  refine zM.start zmd_J7_fill_53178 (Nat.le_of_ble_eq_true rfl) ⟨rfl, rfl, trivial⟩ [some (.ref a), some (.int x), none, none] rfl ?_
  refine z_iconst (v := 0) dJ7_fill_53178_0 (by decide) ?_
  refine z_istore2 dJ7_fill_53178_1 ?_
  refine z_aload0 dJ7_fill_53178_2 ?_
  refine z_alenN ha (by decide) hn dJ7_fill_53178_3 ?_
  refine z_istore3 dJ7_fill_53178_4 ?_
  have q := Kl_fill (l := l) (d := d) (D := D) (f := f) a n x ha hn hb n 0 (by omega)
  rw [kfill_0] at q
  exact q
theorem kfill_cv {c : Nat} {f C : zI} {j n : Nat} {x : Int32} (h : j < 27) : kfill (cv c f C) (c + bP j) n x = cv c f (kfill C j n x) := by
  unfold kfill
  rw [cv_row h, cv_at h]
theorem B_J7_fill {l : Launch} {d : Nat} {D : zD} {b0 : Nat} {g : zG} {f C : zI} {R : zRf} {c : Nat} (hW : CW b0 g c) (hF : CF c R) (hw : zOK b0 zNo (gv c g R)) (j n : Nat) (x : Int32) (hj : bT[j]? = some (13, n)) (hn : n < 2 ^ 31) : zM l d D b0 mJ7_fill_53178 [.ref (c + bP j), .int x] (gv c g R) (cv c f C) (zCy b0 zNo c g none g R f (kfill C j n x) 0 0) := by
  refine (K_J7_fill (g := gv c g R) (f := cv c f C) (c + bP j) n x (hW.i j hj).gv (hW.l j hj (by decide)) hn).mono (fun r g' f' mc ms h => ?_)
  obtain ⟨rfl, rfl, rfl, rfl, rfl⟩ := h
  refine ⟨rfl, rfl, ?_, Nat.le_refl _, Nat.le_refl _, hw, zLe.rf, hW⟩
  exact kfill_cv (List.getElem?_eq_some_iff.mp hj).1
/-- the run begins: what changes of the ints -/
def bbegC (C : zI) : zI :=
  let C1 := zup (zup (zup C 17 2 1) 17 3 0) 17 6 0
  let C2 := zup (zup C1 19 1 0) 19 2 0
  let C3 := zup (zup (zup (zup (zup C2 21 1 0) 21 2 0) 21 3 0) 21 5 0) 21 6 0
  kfill (zup C3 17 11 0) 25 6 0
def bbegin (g : zG) (R : zRf) (C : zI) : zRf × zI := match R 17 0 with
  | none => (R, C)
  | some m => (bgoTo R (g.2.2.2 m 0) none, bbegC C)
theorem bbegin_n {g : zG} {R : zRf} {C : zI} (h : R 17 0 = none) : bbegin g R C = (R, C) := by unfold bbegin; rw [h]
theorem bbegin_s {g : zG} {R : zRf} {C : zI} {m : Nat} (h : R 17 0 = some m) : bbegin g R C = (bgoTo R (g.2.2.2 m 0) none, bbegC C) := by unfold bbegin; rw [h]
theorem CF.beg {c : Nat} {g : zG} {R : zRf} {C : zI} (h : CF c R) : CF c (bbegin g R C).1 := by
  unfold bbegin
  split
  · exact h
  · exact h.goTo
set_option maxRecDepth 20000 in
set_option maxHeartbeats 400000 in
theorem B_X8_begin {l : Launch} {d : Nat} {D : zD} {b0 : Nat} {g : zG} {f C : zI} {R : zRf} {c : Nat} (hW : CW b0 g c) (hF : CF c R) (hw : zOK b0 zNo (gv c g R))  (hd : 1 ≤ d) : zM l d D b0 mX8_begin [.ref (c + 13)] (gv c g R) (cv c f C) (zCy b0 zNo c g none g (bbegin g R C).1 f (bbegin g R C).2 0 0) := by
  refine zM.start zmd_X8_begin (Nat.le_of_ble_eq_true rfl) ⟨rfl, trivial⟩ [some (.ref (c + 13))] rfl ?_
  refine z_aload0 dX8_begin_0 ?_
  refine zc_getN (j := 17) hw hW fl_RX8_49 rfl (by decide) dX8_begin_1 (fun i1 => ?_)
  refine z_ifnonnull (tgt := 8) dX8_begin_4 (by decide) (fun a4 c4 => ?_) (fun c4 => ?_)
  · show zS _ _ _ _ _ _ _ 8 _ _ _ _ _
    rw [bbegin_s c4]
    refine z_aload0 dX8_begin_8 ?_
    refine z_iconst (v := 1) dX8_begin_9 (by decide) ?_
    refine zc_putI (j := 17) hW fl_RX8_17 rfl dX8_begin_10 ?_
    refine z_aload0 dX8_begin_13 ?_
    refine z_iconst (v := 0) dX8_begin_14 (by decide) ?_
    refine zc_putI (j := 17) hW fl_RX8_53 rfl dX8_begin_15 ?_
    refine z_aload0 dX8_begin_18 ?_
    refine z_aload0 dX8_begin_19 ?_
    refine zc_getS (j := 17) hw hW fl_RX8_49 rfl (by decide) c4 dX8_begin_20 (fun i2 => ?_)
    refine zd_getN hw hW fl_RX8_86 i2 (by decide) (by decide) dX8_begin_23 (fun i3 => ?_)
    refine z_null dX8_begin_26 ?_
    show zS _ _ _ _ _ _ _ 27 _ _ _ _ _
    refine z_callV zmd_X8_goTo rfl (by decide) zl_RX8_89 zin_X8_goTo zsel_X8_goTo (B_X8_goTo (d := d - 1) hW hF hw _ none i3 (fun b hb => by cases hb)) (hW.i 17 rfl) rfl rfl (by omega) rfl dX8_begin_27 (fun r4 g4 f4 mc4 ms4 q4 => ?_)
    obtain ⟨rfl, rfl, rfl, hc4, hs4, w4, k4, b4⟩ := q4
    refine z_aload0 dX8_begin_30 ?_
    refine z_iconst (v := 0) dX8_begin_31 (by decide) ?_
    refine zc_putI (j := 17) b4 fl_RX8_64 rfl dX8_begin_32 ?_
    refine z_aload0 dX8_begin_35 ?_
    refine zc_getF (j := 17) b4 fl_RX8_24 rfl (by decide) ((hF.goTo) _ (List.mem_of_getElem? (i := 19) rfl)) dX8_begin_36 ?_
    refine z_callV zmd_X10_clear rfl (by decide) zl_RX8_93 zin_X10_clear zsel_X10_clear (B_X10_clear (d := d - 1) b4 (hF.goTo) w4 ) (b4.i 19 rfl) rfl rfl (by omega) rfl dX8_begin_39 (fun r5 g5 f5 mc5 ms5 q5 => ?_)
    obtain ⟨rfl, rfl, rfl, hc5, hs5, w5, k5, b5⟩ := q5
    refine z_aload0 dX8_begin_42 ?_
    refine zc_getF (j := 17) b5 fl_RX8_31 rfl (by decide) ((hF.goTo) _ (List.mem_of_getElem? (i := 20) rfl)) dX8_begin_43 ?_
    refine z_callV zmd_X3_clear rfl (by decide) zl_RX8_96 zin_X3_clear zsel_X3_clear (B_X3_clear (d := d - 1) b5 (hF.goTo) w5 ) (b5.i 21 rfl) rfl rfl (by omega) rfl dX8_begin_46 (fun r6 g6 f6 mc6 ms6 q6 => ?_)
    obtain ⟨rfl, rfl, rfl, hc6, hs6, w6, k6, b6⟩ := q6
    refine z_aload0 dX8_begin_49 ?_
    refine z_iconst (v := 0) dX8_begin_50 (by decide) ?_
    show zS _ _ _ _ _ _ _ 51 _ _ _ _ _
    refine zc_putI (j := 17) b6 fl_RX8_83 rfl dX8_begin_51 ?_
    refine z_aload0 dX8_begin_54 ?_
    refine zc_getF (j := 17) b6 fl_RX8_39 rfl (by decide) ((hF.goTo) _ (List.mem_of_getElem? (i := 22) rfl)) dX8_begin_55 ?_
    refine z_iconst (v := 0) dX8_begin_58 (by decide) ?_
    refine z_callS zmd_J7_fill_53178 zl_RX8_97 zst_J7_fill_53178 (B_J7_fill (d := d - 1) b6 (hF.goTo) w6 25 6 0 rfl (by decide)) rfl rfl (by omega) rfl dX8_begin_59 (fun r7 g7 f7 mc7 ms7 q7 => ?_)
    obtain ⟨rfl, rfl, rfl, hc7, hs7, w7, k7, b7⟩ := q7
    refine z_ret dX8_begin_62 rfl ?_
    exact ⟨rfl, rfl, rfl, by omega, by omega, w7, (((k4.tr k5).tr k6).tr k7), b7⟩
  · show zS _ _ _ _ _ _ _ 7 _ _ _ _ _
    rw [bbegin_n c4]
    refine z_ret dX8_begin_7 rfl ?_
    exact ⟨rfl, rfl, rfl, by omega, by omega, hw, zLe.rf, hW⟩
def bcntP (C : zI) : Int32 := 0 + C 25 0 + C 25 1 + C 25 2 + C 25 3 + C 25 4 + C 25 5
set_option maxRecDepth 20000 in
set_option maxHeartbeats 400000 in
theorem B_X8_countPerformed {l : Launch} {d : Nat} {D : zD} {b0 : Nat} {g : zG} {f C : zI} {R : zRf} {c : Nat} (hW : CW b0 g c) (hF : CF c R) (hw : zOK b0 zNo (gv c g R))  : zM l d D b0 mX8_countPerformed [.ref (c + 13)] (gv c g R) (cv c f C) (zEx (some (.int (bcntP C))) (gv c g R) (cv c f C)) := by
  refine zM.start zmd_X8_countPerformed (Nat.le_of_ble_eq_true rfl) ⟨rfl, trivial⟩ [some (.ref (c + 13)), none, none] rfl ?_
  refine z_iconst (v := 0) dX8_countPerformed_0 (by decide) ?_
  refine z_istore1 dX8_countPerformed_1 ?_
  refine z_iconst (v := 0) dX8_countPerformed_2 (by decide) ?_
  refine z_istore2 dX8_countPerformed_3 ?_
  refine z_iload2 dX8_countPerformed_4 ?_
  refine z_bipush (v := 6) dX8_countPerformed_5 (by decide) ?_
  refine z_icmp_ge (tgt := 25) dX8_countPerformed_7 (by decide) (fun c7 => ?_) (fun c7 => ?_)
  · exact absurd (by decide) c7
  · show zS _ _ _ _ _ _ _ 10 _ _ _ _ _
    refine z_iload1 dX8_countPerformed_10 ?_
    refine z_aload0 dX8_countPerformed_11 ?_
    refine zc_getF (j := 17) hW fl_RX8_39 rfl (by decide) (hF _ (List.mem_of_getElem? (i := 22) rfl)) dX8_countPerformed_12 ?_
    refine z_iload2 dX8_countPerformed_15 ?_
    refine zc_ld (j := 25) hW rfl (by decide) (ixC 0) (by decide) dX8_countPerformed_16 ?_
    refine z_iadd dX8_countPerformed_17 ?_
    refine z_istore1 dX8_countPerformed_18 ?_
    refine z_iinc2 (y := 1) dX8_countPerformed_19 (by decide) ?_
    refine z_goto (tgt := 4) dX8_countPerformed_22 (by decide) ?_
    show zS _ _ _ _ _ _ _ 4 _ _ _ _ _
    refine z_iload2 dX8_countPerformed_4 ?_
    refine z_bipush (v := 6) dX8_countPerformed_5 (by decide) ?_
    refine z_icmp_ge (tgt := 25) dX8_countPerformed_7 (by decide) (fun c7 => ?_) (fun c7 => ?_)
    · exact absurd (by decide) c7
    · show zS _ _ _ _ _ _ _ 10 _ _ _ _ _
      refine z_iload1 dX8_countPerformed_10 ?_
      refine z_aload0 dX8_countPerformed_11 ?_
      refine zc_getF (j := 17) hW fl_RX8_39 rfl (by decide) (hF _ (List.mem_of_getElem? (i := 22) rfl)) dX8_countPerformed_12 ?_
      refine z_iload2 dX8_countPerformed_15 ?_
      refine zc_ld (j := 25) hW rfl (by decide) (ixA (ixC 0) (ixC 1)) (by omega) dX8_countPerformed_16 ?_
      refine z_iadd dX8_countPerformed_17 ?_
      refine z_istore1 dX8_countPerformed_18 ?_
      refine z_iinc2 (y := 1) dX8_countPerformed_19 (by decide) ?_
      refine z_goto (tgt := 4) dX8_countPerformed_22 (by decide) ?_
      show zS _ _ _ _ _ _ _ 4 _ _ _ _ _
      refine z_iload2 dX8_countPerformed_4 ?_
      refine z_bipush (v := 6) dX8_countPerformed_5 (by decide) ?_
      refine z_icmp_ge (tgt := 25) dX8_countPerformed_7 (by decide) (fun c7 => ?_) (fun c7 => ?_)
      · exact absurd (by decide) c7
      · show zS _ _ _ _ _ _ _ 10 _ _ _ _ _
        refine z_iload1 dX8_countPerformed_10 ?_
        refine z_aload0 dX8_countPerformed_11 ?_
        refine zc_getF (j := 17) hW fl_RX8_39 rfl (by decide) (hF _ (List.mem_of_getElem? (i := 22) rfl)) dX8_countPerformed_12 ?_
        refine z_iload2 dX8_countPerformed_15 ?_
        refine zc_ld (j := 25) hW rfl (by decide) (ixA (ixA (ixC 0) (ixC 1)) (ixC 1)) (by omega) dX8_countPerformed_16 ?_
        refine z_iadd dX8_countPerformed_17 ?_
        refine z_istore1 dX8_countPerformed_18 ?_
        refine z_iinc2 (y := 1) dX8_countPerformed_19 (by decide) ?_
        refine z_goto (tgt := 4) dX8_countPerformed_22 (by decide) ?_
        show zS _ _ _ _ _ _ _ 4 _ _ _ _ _
        refine z_iload2 dX8_countPerformed_4 ?_
        refine z_bipush (v := 6) dX8_countPerformed_5 (by decide) ?_
        refine z_icmp_ge (tgt := 25) dX8_countPerformed_7 (by decide) (fun c7 => ?_) (fun c7 => ?_)
        · exact absurd (by decide) c7
        · show zS _ _ _ _ _ _ _ 10 _ _ _ _ _
          refine z_iload1 dX8_countPerformed_10 ?_
          refine z_aload0 dX8_countPerformed_11 ?_
          refine zc_getF (j := 17) hW fl_RX8_39 rfl (by decide) (hF _ (List.mem_of_getElem? (i := 22) rfl)) dX8_countPerformed_12 ?_
          refine z_iload2 dX8_countPerformed_15 ?_
          refine zc_ld (j := 25) hW rfl (by decide) (ixA (ixA (ixA (ixC 0) (ixC 1)) (ixC 1)) (ixC 1)) (by omega) dX8_countPerformed_16 ?_
          refine z_iadd dX8_countPerformed_17 ?_
          refine z_istore1 dX8_countPerformed_18 ?_
          refine z_iinc2 (y := 1) dX8_countPerformed_19 (by decide) ?_
          refine z_goto (tgt := 4) dX8_countPerformed_22 (by decide) ?_
          show zS _ _ _ _ _ _ _ 4 _ _ _ _ _
          refine z_iload2 dX8_countPerformed_4 ?_
          refine z_bipush (v := 6) dX8_countPerformed_5 (by decide) ?_
          refine z_icmp_ge (tgt := 25) dX8_countPerformed_7 (by decide) (fun c7 => ?_) (fun c7 => ?_)
          · exact absurd (by decide) c7
          · show zS _ _ _ _ _ _ _ 10 _ _ _ _ _
            refine z_iload1 dX8_countPerformed_10 ?_
            refine z_aload0 dX8_countPerformed_11 ?_
            refine zc_getF (j := 17) hW fl_RX8_39 rfl (by decide) (hF _ (List.mem_of_getElem? (i := 22) rfl)) dX8_countPerformed_12 ?_
            refine z_iload2 dX8_countPerformed_15 ?_
            refine zc_ld (j := 25) hW rfl (by decide) (ixA (ixA (ixA (ixA (ixC 0) (ixC 1)) (ixC 1)) (ixC 1)) (ixC 1)) (by omega) dX8_countPerformed_16 ?_
            refine z_iadd dX8_countPerformed_17 ?_
            refine z_istore1 dX8_countPerformed_18 ?_
            refine z_iinc2 (y := 1) dX8_countPerformed_19 (by decide) ?_
            refine z_goto (tgt := 4) dX8_countPerformed_22 (by decide) ?_
            show zS _ _ _ _ _ _ _ 4 _ _ _ _ _
            refine z_iload2 dX8_countPerformed_4 ?_
            refine z_bipush (v := 6) dX8_countPerformed_5 (by decide) ?_
            refine z_icmp_ge (tgt := 25) dX8_countPerformed_7 (by decide) (fun c7 => ?_) (fun c7 => ?_)
            · exact absurd (by decide) c7
            · show zS _ _ _ _ _ _ _ 10 _ _ _ _ _
              refine z_iload1 dX8_countPerformed_10 ?_
              refine z_aload0 dX8_countPerformed_11 ?_
              refine zc_getF (j := 17) hW fl_RX8_39 rfl (by decide) (hF _ (List.mem_of_getElem? (i := 22) rfl)) dX8_countPerformed_12 ?_
              refine z_iload2 dX8_countPerformed_15 ?_
              refine zc_ld (j := 25) hW rfl (by decide) (ixA (ixA (ixA (ixA (ixA (ixC 0) (ixC 1)) (ixC 1)) (ixC 1)) (ixC 1)) (ixC 1)) (by omega) dX8_countPerformed_16 ?_
              refine z_iadd dX8_countPerformed_17 ?_
              refine z_istore1 dX8_countPerformed_18 ?_
              refine z_iinc2 (y := 1) dX8_countPerformed_19 (by decide) ?_
              refine z_goto (tgt := 4) dX8_countPerformed_22 (by decide) ?_
              show zS _ _ _ _ _ _ _ 4 _ _ _ _ _
              refine z_iload2 dX8_countPerformed_4 ?_
              refine z_bipush (v := 6) dX8_countPerformed_5 (by decide) ?_
              refine z_icmp_ge (tgt := 25) dX8_countPerformed_7 (by decide) (fun c7 => ?_) (fun c7 => ?_)
              · show zS _ _ _ _ _ _ _ 25 _ _ _ _ _
                refine z_iload1 dX8_countPerformed_25 ?_
                refine z_iret dX8_countPerformed_26 rfl ?_
                exact ⟨rfl, rfl, rfl, rfl, rfl⟩
              · exact absurd c7 (by decide)
def bcdA (R : zRf) : Nat → Nat → Int32 → Int32
  | 0, _, x => x
  | j + 1, k, x => bcdA R j (k + 1) (if R 18 k = none then x else x + 1)
def bclA (g : zG) (e : Nat) : Nat → Nat → Int32 → Int32
  | 0, _, x => x
  | j + 1, k, x => bclA g e j (k + 1) (if bclause g e (nI k) = none then x else x + 1)
set_option maxRecDepth 20000 in
theorem Bl_X8_countDefined {l : Launch} {d : Nat} {D : zD} {b0 : Nat} {g : zG} {f C : zI} {R : zRf} {c : Nat} (hW : CW b0 g c) (hF : CF c R) (hw : zOK b0 zNo (gv c g R))  : ∀ (j k : Nat) (x : Int32), k + j = 4 → zS l d D b0 mX8_countDefined 0 0 4 [some (.ref (c + 13)), some (.int x), some (.int (nI k))] [] (gv c g R) (cv c f C) (zq D b0 (zEx (some (.int (bcdA R j k x))) (gv c g R) (cv c f C))) := by
  intro j
  induction j with
  | zero =>
    intro k x hk
    obtain rfl : k = 4 := by omega
    show zS _ _ _ _ _ _ _ 4 _ _ _ _ _
    refine z_iload2 dX8_countDefined_4 ?_
    refine z_iconst (v := 4) dX8_countDefined_5 (by decide) ?_
    refine z_icmp_ge (tgt := 27) dX8_countDefined_6 (by decide) (fun c6 => ?_) (fun c6 => ?_)
    · show zS _ _ _ _ _ _ _ 27 _ _ _ _ _
      refine z_iload1 dX8_countDefined_27 ?_
      refine z_iret dX8_countDefined_28 rfl ?_
      exact ⟨rfl, rfl, rfl, rfl, rfl⟩
    · exact absurd c6 (nI_nlt (a := 4) (b := 4) (by decide) (by decide))
  | succ j ih =>
    intro k x hk
    show zS _ _ _ _ _ _ _ 4 _ _ _ _ _
    refine z_iload2 dX8_countDefined_4 ?_
    refine z_iconst (v := 4) dX8_countDefined_5 (by decide) ?_
    refine z_icmp_ge (tgt := 27) dX8_countDefined_6 (by decide) (fun c6 => ?_) (fun c6 => ?_)
    · exact absurd (nI_lt (b := 4) (by omega) (by decide)) c6
    · show zS _ _ _ _ _ _ _ 9 _ _ _ _ _
      refine z_aload0 dX8_countDefined_9 ?_
      refine zc_getF (j := 17) hW fl_RX8_11 rfl (by decide) (hF _ (List.mem_of_getElem? (i := 18) rfl)) dX8_countDefined_10 ?_
      refine z_iload2 dX8_countDefined_13 ?_
      refine zc_ald (j := 18) (t' := 0) hw hW rfl (by decide) (by decide) (rfl : nI k = nI k) (by omega) (fun _ => rfl) (by decide) dX8_countDefined_14 (fun i1 => ?_)
      refine z_ifnull (tgt := 21) dX8_countDefined_15 (by decide) (fun c15 => ?_) (fun a15 c15 => ?_)
      · show zS _ _ _ _ _ _ _ 21 _ _ _ _ _
        refine z_iinc2 (y := 1) dX8_countDefined_21 (by decide) ?_
        refine z_goto (tgt := 4) dX8_countDefined_24 (by decide) ?_
        rw [nI_1]
        rw [show bcdA R (j + 1) k x = bcdA R j (k + 1) _ from congrArg (bcdA R j (k + 1)) (if_pos c15)]
        exact ih (k + 1) _ (by omega)
      · show zS _ _ _ _ _ _ _ 18 _ _ _ _ _
        refine z_iinc1 (y := 1) dX8_countDefined_18 (by decide) ?_
        refine z_iinc2 (y := 1) dX8_countDefined_21 (by decide) ?_
        refine z_goto (tgt := 4) dX8_countDefined_24 (by decide) ?_
        rw [nI_1]
        rw [show bcdA R (j + 1) k x = bcdA R j (k + 1) _ from congrArg (bcdA R j (k + 1)) (if_neg (by rw [c15]; intro q; cases q))]
        exact ih (k + 1) _ (by omega)
set_option maxRecDepth 20000 in
set_option maxHeartbeats 400000 in
theorem B_X8_countDefined {l : Launch} {d : Nat} {D : zD} {b0 : Nat} {g : zG} {f C : zI} {R : zRf} {c : Nat} (hW : CW b0 g c) (hF : CF c R) (hw : zOK b0 zNo (gv c g R))  : zM l d D b0 mX8_countDefined [.ref (c + 13)] (gv c g R) (cv c f C) (zEx (some (.int (bcdA R 4 0 0))) (gv c g R) (cv c f C)) := by
  refine zM.start zmd_X8_countDefined (Nat.le_of_ble_eq_true rfl) ⟨rfl, trivial⟩ [some (.ref (c + 13)), none, none] rfl ?_
  refine z_iconst (v := 0) dX8_countDefined_0 (by decide) ?_
  refine z_istore1 dX8_countDefined_1 ?_
  refine z_iconst (v := 0) dX8_countDefined_2 (by decide) ?_
  refine z_istore2 dX8_countDefined_3 ?_
  exact Bl_X8_countDefined hW hF hw 4 0 0 (by omega)
set_option maxRecDepth 20000 in
theorem Bl_X1_countOperationClauses {l : Launch} {d : Nat} {D : zD} {b0 : Nat} {g : zG} {f C : zI} {R : zRf} {c : Nat} (hW : CW b0 g c) (hF : CF c R) (hw : zOK b0 zNo (gv c g R)) (e : Nat) (hi : zIn b0 g e 1) (he : eOK g c e) (hd : 1 ≤ d) : ∀ (j k : Nat) (x : Int32), k + j = 6 → zS l d D b0 mX1_countOperationClauses 0 0 4 [some (.ref e), some (.int x), some (.int (nI k))] [] (gv c g R) (cv c f C) (zq D b0 (zEx (some (.int (bclA g e j k x))) (gv c g R) (cv c f C))) := by
  intro j
  induction j with
  | zero =>
    intro k x hk
    obtain rfl : k = 6 := by omega
    show zS _ _ _ _ _ _ _ 4 _ _ _ _ _
    refine z_iload2 dX1_countOperationClauses_4 ?_
    refine z_bipush (v := 6) dX1_countOperationClauses_5 (by decide) ?_
    refine z_icmp_ge (tgt := 27) dX1_countOperationClauses_7 (by decide) (fun c7 => ?_) (fun c7 => ?_)
    · show zS _ _ _ _ _ _ _ 27 _ _ _ _ _
      refine z_iload1 dX1_countOperationClauses_27 ?_
      refine z_iret dX1_countOperationClauses_28 rfl ?_
      exact ⟨rfl, rfl, rfl, rfl, rfl⟩
    · exact absurd c7 (nI_nlt (a := 6) (b := 6) (by decide) (by decide))
  | succ j ih =>
    intro k x hk
    show zS _ _ _ _ _ _ _ 4 _ _ _ _ _
    refine z_iload2 dX1_countOperationClauses_4 ?_
    refine z_bipush (v := 6) dX1_countOperationClauses_5 (by decide) ?_
    refine z_icmp_ge (tgt := 27) dX1_countOperationClauses_7 (by decide) (fun c7 => ?_) (fun c7 => ?_)
    · exact absurd (nI_lt (b := 6) (by omega) (by decide)) c7
    · show zS _ _ _ _ _ _ _ 10 _ _ _ _ _
      refine z_aload0 dX1_countOperationClauses_10 ?_
      refine z_iload2 dX1_countOperationClauses_11 ?_
      refine z_callV zmd_X1_clause rfl (by decide) zl_RX1_23 zin_X1_clause zsel_X1_clause (B_X1_clause (d := d - 1) hW hF hw _ _ hi he) hi rfl rfl (by omega) rfl dX1_countOperationClauses_12 (fun r1 g1 f1 mc1 ms1 q1 => ?_)
      obtain ⟨rfl, rfl, rfl, rfl, rfl⟩ := q1
      refine z_ifnull (tgt := 21) dX1_countOperationClauses_15 (by decide) (fun c15 => ?_) (fun a15 c15 => ?_)
      · show zS _ _ _ _ _ _ _ 21 _ _ _ _ _
        refine z_iinc2 (y := 1) dX1_countOperationClauses_21 (by decide) ?_
        refine z_goto (tgt := 4) dX1_countOperationClauses_24 (by decide) ?_
        rw [nI_1]
        rw [show bclA g e (j + 1) k x = bclA g e j (k + 1) _ from congrArg (bclA g e j (k + 1)) (if_pos c15)]
        exact ih (k + 1) _ (by omega)
      · show zS _ _ _ _ _ _ _ 18 _ _ _ _ _
        refine z_iinc1 (y := 1) dX1_countOperationClauses_18 (by decide) ?_
        refine z_iinc2 (y := 1) dX1_countOperationClauses_21 (by decide) ?_
        refine z_goto (tgt := 4) dX1_countOperationClauses_24 (by decide) ?_
        rw [nI_1]
        rw [show bclA g e (j + 1) k x = bclA g e j (k + 1) _ from congrArg (bclA g e j (k + 1)) (if_neg (by rw [c15]; intro q; cases q))]
        exact ih (k + 1) _ (by omega)
set_option maxRecDepth 20000 in
set_option maxHeartbeats 400000 in
theorem B_X1_countOperationClauses {l : Launch} {d : Nat} {D : zD} {b0 : Nat} {g : zG} {f C : zI} {R : zRf} {c : Nat} (hW : CW b0 g c) (hF : CF c R) (hw : zOK b0 zNo (gv c g R)) (e : Nat) (hi : zIn b0 g e 1) (he : eOK g c e) (hd : 1 ≤ d) : zM l d D b0 mX1_countOperationClauses [.ref e] (gv c g R) (cv c f C) (zEx (some (.int (bclA g e 6 0 0))) (gv c g R) (cv c f C)) := by
  refine zM.start zmd_X1_countOperationClauses (Nat.le_of_ble_eq_true rfl) ⟨rfl, trivial⟩ [some (.ref e), none, none] rfl ?_
  refine z_iconst (v := 0) dX1_countOperationClauses_0 (by decide) ?_
  refine z_istore1 dX1_countOperationClauses_1 ?_
  refine z_iconst (v := 0) dX1_countOperationClauses_2 (by decide) ?_
  refine z_istore2 dX1_countOperationClauses_3 ?_
  exact Bl_X1_countOperationClauses hW hF hw e hi he hd 6 0 0 (by omega)
/-- what a frame shows beside its kind -/
def bprop (g : zG) (f C : zI) (x : Nat) : Int32 := if f x 0 = 7 then f (pA g x 1) 1 else if f x 0 = 8 then f (pA g x 1) 1 else if f x 0 = 10 then f (pA g x 1) 1 else if f x 0 = 2 then f x 3 else if f x 0 = 13 then f x 3 else if f x 0 = 12 then bclA g (pA g x 1) 6 0 0 else if f x 0 = 11 then buses C f (g.2.2.2 x 4) else if f x 0 = 14 then buses C f (g.2.2.2 x 4) else if f x 0 = 9 then bexecd C (f x 3) else -9
theorem bprop_7 {g : zG} {f C : zI} {x : Nat} (h : f x 0 = 7) : bprop g f C x = f (pA g x 1) 1 := if_pos h
theorem bprop_8 {g : zG} {f C : zI} {x : Nat} (h : f x 0 = 8) : bprop g f C x = f (pA g x 1) 1 := (if_neg (by rw [h]; decide)).trans (if_pos h)
theorem bprop_10 {g : zG} {f C : zI} {x : Nat} (h : f x 0 = 10) : bprop g f C x = f (pA g x 1) 1 := (if_neg (by rw [h]; decide)).trans ((if_neg (by rw [h]; decide)).trans (if_pos h))
theorem bprop_2 {g : zG} {f C : zI} {x : Nat} (h : f x 0 = 2) : bprop g f C x = f x 3 := (if_neg (by rw [h]; decide)).trans ((if_neg (by rw [h]; decide)).trans ((if_neg (by rw [h]; decide)).trans (if_pos h)))
theorem bprop_13 {g : zG} {f C : zI} {x : Nat} (h : f x 0 = 13) : bprop g f C x = f x 3 := (if_neg (by rw [h]; decide)).trans ((if_neg (by rw [h]; decide)).trans ((if_neg (by rw [h]; decide)).trans ((if_neg (by rw [h]; decide)).trans (if_pos h))))
theorem bprop_12 {g : zG} {f C : zI} {x : Nat} (h : f x 0 = 12) : bprop g f C x = bclA g (pA g x 1) 6 0 0 := (if_neg (by rw [h]; decide)).trans ((if_neg (by rw [h]; decide)).trans ((if_neg (by rw [h]; decide)).trans ((if_neg (by rw [h]; decide)).trans ((if_neg (by rw [h]; decide)).trans (if_pos h)))))
theorem bprop_11 {g : zG} {f C : zI} {x : Nat} (h : f x 0 = 11) : bprop g f C x = buses C f (g.2.2.2 x 4) := (if_neg (by rw [h]; decide)).trans ((if_neg (by rw [h]; decide)).trans ((if_neg (by rw [h]; decide)).trans ((if_neg (by rw [h]; decide)).trans ((if_neg (by rw [h]; decide)).trans ((if_neg (by rw [h]; decide)).trans (if_pos h))))))
theorem bprop_14 {g : zG} {f C : zI} {x : Nat} (h : f x 0 = 14) : bprop g f C x = buses C f (g.2.2.2 x 4) := (if_neg (by rw [h]; decide)).trans ((if_neg (by rw [h]; decide)).trans ((if_neg (by rw [h]; decide)).trans ((if_neg (by rw [h]; decide)).trans ((if_neg (by rw [h]; decide)).trans ((if_neg (by rw [h]; decide)).trans ((if_neg (by rw [h]; decide)).trans (if_pos h)))))))
theorem bprop_9 {g : zG} {f C : zI} {x : Nat} (h : f x 0 = 9) : bprop g f C x = bexecd C (f x 3) := (if_neg (by rw [h]; decide)).trans ((if_neg (by rw [h]; decide)).trans ((if_neg (by rw [h]; decide)).trans ((if_neg (by rw [h]; decide)).trans ((if_neg (by rw [h]; decide)).trans ((if_neg (by rw [h]; decide)).trans ((if_neg (by rw [h]; decide)).trans ((if_neg (by rw [h]; decide)).trans (if_pos h))))))))
theorem bprop_3 {g : zG} {f C : zI} {x : Nat} (h : f x 0 = 3) : bprop g f C x = -9 := (if_neg (by rw [h]; decide)).trans ((if_neg (by rw [h]; decide)).trans ((if_neg (by rw [h]; decide)).trans ((if_neg (by rw [h]; decide)).trans ((if_neg (by rw [h]; decide)).trans ((if_neg (by rw [h]; decide)).trans ((if_neg (by rw [h]; decide)).trans ((if_neg (by rw [h]; decide)).trans ((if_neg (by rw [h]; decide)).trans (rfl)))))))))
theorem bprop_4 {g : zG} {f C : zI} {x : Nat} (h : f x 0 = 4) : bprop g f C x = -9 := (if_neg (by rw [h]; decide)).trans ((if_neg (by rw [h]; decide)).trans ((if_neg (by rw [h]; decide)).trans ((if_neg (by rw [h]; decide)).trans ((if_neg (by rw [h]; decide)).trans ((if_neg (by rw [h]; decide)).trans ((if_neg (by rw [h]; decide)).trans ((if_neg (by rw [h]; decide)).trans ((if_neg (by rw [h]; decide)).trans (rfl)))))))))
theorem bprop_5 {g : zG} {f C : zI} {x : Nat} (h : f x 0 = 5) : bprop g f C x = -9 := (if_neg (by rw [h]; decide)).trans ((if_neg (by rw [h]; decide)).trans ((if_neg (by rw [h]; decide)).trans ((if_neg (by rw [h]; decide)).trans ((if_neg (by rw [h]; decide)).trans ((if_neg (by rw [h]; decide)).trans ((if_neg (by rw [h]; decide)).trans ((if_neg (by rw [h]; decide)).trans ((if_neg (by rw [h]; decide)).trans (rfl)))))))))
theorem bprop_6 {g : zG} {f C : zI} {x : Nat} (h : f x 0 = 6) : bprop g f C x = -9 := (if_neg (by rw [h]; decide)).trans ((if_neg (by rw [h]; decide)).trans ((if_neg (by rw [h]; decide)).trans ((if_neg (by rw [h]; decide)).trans ((if_neg (by rw [h]; decide)).trans ((if_neg (by rw [h]; decide)).trans ((if_neg (by rw [h]; decide)).trans ((if_neg (by rw [h]; decide)).trans ((if_neg (by rw [h]; decide)).trans (rfl)))))))))
theorem bprop_d {g : zG} {f C : zI} {x : Nat} (h7 : ¬ f x 0 = 7) (h8 : ¬ f x 0 = 8) (h10 : ¬ f x 0 = 10) (h2 : ¬ f x 0 = 2) (h13 : ¬ f x 0 = 13) (h12 : ¬ f x 0 = 12) (h11 : ¬ f x 0 = 11) (h14 : ¬ f x 0 = 14) (h9 : ¬ f x 0 = 9) : bprop g f C x = -9 := (if_neg h7).trans ((if_neg h8).trans ((if_neg h10).trans ((if_neg h2).trans ((if_neg h13).trans ((if_neg h12).trans ((if_neg h11).trans ((if_neg h14).trans ((if_neg h9).trans (rfl)))))))))
def bpropV (g : zG) (f : zI) (c x : Nat) : Prop := (f x 0 = 7 ∨ f x 0 = 8 ∨ f x 0 = 10 → g.2.2.2 x 1 = some (pA g x 1)) ∧ (f x 0 = 12 → g.2.2.2 x 1 = some (pA g x 1) ∧ eOK g c (pA g x 1))
set_option maxRecDepth 20000 in
set_option maxHeartbeats 400000 in
theorem B_X8_propertyOf {l : Launch} {d : Nat} {D : zD} {b0 : Nat} {g : zG} {f C : zI} {R : zRf} {c : Nat} (hW : CW b0 g c) (hF : CF c R) (hw : zOK b0 zNo (gv c g R)) (x : Nat) (hx : zIn b0 g x 2) (hV : bpropV g f c x) (hd : 2 ≤ d) : zM l d D b0 mX8_propertyOf [.ref (c + 13), .ref x] (gv c g R) (cv c f C) (zEx (some (.int (bprop g f C x))) (gv c g R) (cv c f C)) := by
  refine zM.start zmd_X8_propertyOf (Nat.le_of_ble_eq_true rfl) ⟨rfl, rfl, trivial⟩ [some (.ref (c + 13)), some (.ref x)] rfl ?_
  refine z_aload1 dX8_propertyOf_0 ?_
  refine zd_getI hW fl_RX8_103 hx (by decide) dX8_propertyOf_1 ?_
  refine z_tab dX8_propertyOf_4 (by decide +kernel) (by decide +kernel) ?_
  refine ⟨fun c4_0 => ?_, fun nc4_0 => ?_⟩
  · show zS _ _ _ _ _ _ _ 80 _ _ _ _ _
    rw [bprop_2 c4_0]
    refine z_aload1 dX8_propertyOf_80 ?_
    refine zd_getI hW fl_RX8_116 hx (by decide) dX8_propertyOf_81 ?_
    refine z_iret dX8_propertyOf_84 rfl ?_
    exact ⟨rfl, rfl, rfl, rfl, rfl⟩
  refine ⟨fun c4_1 => ?_, fun nc4_1 => ?_⟩
  · show zS _ _ _ _ _ _ _ 117 _ _ _ _ _
    rw [bprop_3 c4_1]
    refine z_bipush (v := (-9)) dX8_propertyOf_117 (by decide) ?_
    refine z_iret dX8_propertyOf_119 rfl ?_
    exact ⟨rfl, rfl, rfl, rfl, rfl⟩
  refine ⟨fun c4_2 => ?_, fun nc4_2 => ?_⟩
  · show zS _ _ _ _ _ _ _ 117 _ _ _ _ _
    rw [bprop_4 c4_2]
    refine z_bipush (v := (-9)) dX8_propertyOf_117 (by decide) ?_
    refine z_iret dX8_propertyOf_119 rfl ?_
    exact ⟨rfl, rfl, rfl, rfl, rfl⟩
  refine ⟨fun c4_3 => ?_, fun nc4_3 => ?_⟩
  · show zS _ _ _ _ _ _ _ 117 _ _ _ _ _
    rw [bprop_5 c4_3]
    refine z_bipush (v := (-9)) dX8_propertyOf_117 (by decide) ?_
    refine z_iret dX8_propertyOf_119 rfl ?_
    exact ⟨rfl, rfl, rfl, rfl, rfl⟩
  refine ⟨fun c4_4 => ?_, fun nc4_4 => ?_⟩
  · show zS _ _ _ _ _ _ _ 117 _ _ _ _ _
    rw [bprop_6 c4_4]
    refine z_bipush (v := (-9)) dX8_propertyOf_117 (by decide) ?_
    refine z_iret dX8_propertyOf_119 rfl ?_
    exact ⟨rfl, rfl, rfl, rfl, rfl⟩
  refine ⟨fun c4_5 => ?_, fun nc4_5 => ?_⟩
  · show zS _ _ _ _ _ _ _ 72 _ _ _ _ _
    rw [bprop_7 c4_5]
    refine z_aload1 dX8_propertyOf_72 ?_
    refine zd_getS hw hW fl_RX8_108 hx (by decide) (by decide) (hV.1 (Or.inl c4_5)) dX8_propertyOf_73 (fun i1 => ?_)
    refine zd_getI hW fl_RX8_111 i1 (by decide) dX8_propertyOf_76 ?_
    refine z_iret dX8_propertyOf_79 rfl ?_
    exact ⟨rfl, rfl, rfl, rfl, rfl⟩
  refine ⟨fun c4_6 => ?_, fun nc4_6 => ?_⟩
  · show zS _ _ _ _ _ _ _ 72 _ _ _ _ _
    rw [bprop_8 c4_6]
    refine z_aload1 dX8_propertyOf_72 ?_
    refine zd_getS hw hW fl_RX8_108 hx (by decide) (by decide) (hV.1 (Or.inr (Or.inl c4_6))) dX8_propertyOf_73 (fun i2 => ?_)
    refine zd_getI hW fl_RX8_111 i2 (by decide) dX8_propertyOf_76 ?_
    refine z_iret dX8_propertyOf_79 rfl ?_
    exact ⟨rfl, rfl, rfl, rfl, rfl⟩
  refine ⟨fun c4_7 => ?_, fun nc4_7 => ?_⟩
  · show zS _ _ _ _ _ _ _ 105 _ _ _ _ _
    rw [bprop_9 c4_7]
    refine z_aload0 dX8_propertyOf_105 ?_
    refine zc_getF (j := 17) hW fl_RX8_31 rfl (by decide) (hF _ (List.mem_of_getElem? (i := 20) rfl)) dX8_propertyOf_106 ?_
    refine z_aload1 dX8_propertyOf_109 ?_
    refine zd_getI hW fl_RX8_116 hx (by decide) dX8_propertyOf_110 ?_
    refine z_callVi zmd_X3_executed rfl (by decide) zl_RX8_131 zin_X3_executed zsel_X3_executed (B_X3_executed (d := d - 1) hW hF hw _ (by omega)) (hW.i 21 rfl) rfl rfl (by omega) rfl dX8_propertyOf_113 ?_
    refine z_iret dX8_propertyOf_116 rfl ?_
    exact ⟨rfl, rfl, rfl, rfl, rfl⟩
  refine ⟨fun c4_8 => ?_, fun nc4_8 => ?_⟩
  · show zS _ _ _ _ _ _ _ 72 _ _ _ _ _
    rw [bprop_10 c4_8]
    refine z_aload1 dX8_propertyOf_72 ?_
    refine zd_getS hw hW fl_RX8_108 hx (by decide) (by decide) (hV.1 (Or.inr (Or.inr c4_8))) dX8_propertyOf_73 (fun i4 => ?_)
    refine zd_getI hW fl_RX8_111 i4 (by decide) dX8_propertyOf_76 ?_
    refine z_iret dX8_propertyOf_79 rfl ?_
    exact ⟨rfl, rfl, rfl, rfl, rfl⟩
  refine ⟨fun c4_9 => ?_, fun nc4_9 => ?_⟩
  · show zS _ _ _ _ _ _ _ 93 _ _ _ _ _
    rw [bprop_11 c4_9]
    refine z_aload0 dX8_propertyOf_93 ?_
    refine zc_getF (j := 17) hW fl_RX8_31 rfl (by decide) (hF _ (List.mem_of_getElem? (i := 20) rfl)) dX8_propertyOf_94 ?_
    refine z_aload1 dX8_propertyOf_97 ?_
    refine zd_getN hw hW fl_RX8_123 hx (by decide) (by decide) dX8_propertyOf_98 (fun i5 => ?_)
    refine z_callVi zmd_X3_usesOf rfl (by decide) zl_RX8_127 zin_X3_usesOf zsel_X3_usesOf (B_X3_usesOf (d := d - 1) hW hF hw _ i5 (by omega)) (hW.i 21 rfl) rfl rfl (by omega) rfl dX8_propertyOf_101 ?_
    refine z_iret dX8_propertyOf_104 rfl ?_
    exact ⟨rfl, rfl, rfl, rfl, rfl⟩
  refine ⟨fun c4_10 => ?_, fun nc4_10 => ?_⟩
  · show zS _ _ _ _ _ _ _ 85 _ _ _ _ _
    rw [bprop_12 c4_10]
    refine z_aload1 dX8_propertyOf_85 ?_
    refine zd_getS hw hW fl_RX8_108 hx (by decide) (by decide) (hV.2 c4_10).1 dX8_propertyOf_86 (fun i7 => ?_)
    refine z_callVi zmd_X1_countOperationClauses rfl (by decide) zl_RX8_119 zin_X1_countOperationClauses zsel_X1_countOperationClauses (B_X1_countOperationClauses (d := d - 1) hW hF hw _ i7 (hV.2 c4_10).2 (by omega)) i7 rfl rfl (by omega) rfl dX8_propertyOf_89 ?_
    refine z_iret dX8_propertyOf_92 rfl ?_
    exact ⟨rfl, rfl, rfl, rfl, rfl⟩
  refine ⟨fun c4_11 => ?_, fun nc4_11 => ?_⟩
  · show zS _ _ _ _ _ _ _ 80 _ _ _ _ _
    rw [bprop_13 c4_11]
    refine z_aload1 dX8_propertyOf_80 ?_
    refine zd_getI hW fl_RX8_116 hx (by decide) dX8_propertyOf_81 ?_
    refine z_iret dX8_propertyOf_84 rfl ?_
    exact ⟨rfl, rfl, rfl, rfl, rfl⟩
  refine ⟨fun c4_12 => ?_, fun nc4_12 => ?_⟩
  · show zS _ _ _ _ _ _ _ 93 _ _ _ _ _
    rw [bprop_14 c4_12]
    refine z_aload0 dX8_propertyOf_93 ?_
    refine zc_getF (j := 17) hW fl_RX8_31 rfl (by decide) (hF _ (List.mem_of_getElem? (i := 20) rfl)) dX8_propertyOf_94 ?_
    refine z_aload1 dX8_propertyOf_97 ?_
    refine zd_getN hw hW fl_RX8_123 hx (by decide) (by decide) dX8_propertyOf_98 (fun i9 => ?_)
    refine z_callVi zmd_X3_usesOf rfl (by decide) zl_RX8_127 zin_X3_usesOf zsel_X3_usesOf (B_X3_usesOf (d := d - 1) hW hF hw _ i9 (by omega)) (hW.i 21 rfl) rfl rfl (by omega) rfl dX8_propertyOf_101 ?_
    refine z_iret dX8_propertyOf_104 rfl ?_
    exact ⟨rfl, rfl, rfl, rfl, rfl⟩
  show zS _ _ _ _ _ _ _ 117 _ _ _ _ _
  rw [bprop_d nc4_5 nc4_6 nc4_8 nc4_0 nc4_11 nc4_10 nc4_9 nc4_12 nc4_7]
  refine z_bipush (v := (-9)) dX8_propertyOf_117 (by decide) ?_
  refine z_iret dX8_propertyOf_119 rfl ?_
  exact ⟨rfl, rfl, rfl, rfl, rfl⟩
