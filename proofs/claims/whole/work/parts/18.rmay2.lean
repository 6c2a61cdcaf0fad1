/-! The reference's call of may, in literal form. -/
def pczA : Nat → Nat → zI → zI
  | 0, _, M => M
  | j + 1, k, M => pczA j (k + 1) (zup (zup M 14 k 0) 15 k 0)
def pclear (M : zI) (x : Int32) : zI := if x = -9 then M else pczA (tn (M 11 (tn x)) - tn x) (tn x) M
def pcl5 : Nat → Nat → zI → zI
  | 0, _, M => M
  | j + 1, k, M => pcl5 j (k + 1) (pclear M (M 2 k))
def pgr5 : Nat → Nat → Int32 → zI → Int32 × zI
  | 0, _, b, M => (b, M)
  | j + 1, k, b, M => pgr5 j (k + 1) (b ||| (pgrow M (M 2 k)).1) (pgrow M (M 2 k)).2
def pmayL : Nat → zI → zI
  | 0, M => M
  | j + 1, M => if (pgr5 5 0 0 M).1 = 0 then (pgr5 5 0 0 M).2 else pmayL j (pgr5 5 0 0 M).2
def pmayT : Nat → zI → Prop
  | 0, _ => False
  | j + 1, M => ¬ (pgr5 5 0 0 M).1 = 0 → pmayT j (pgr5 5 0 0 M).2
/-- the rows that may reads but doesn't write -/
def psame (M N : zI) : Prop := ∀ r, r ≠ 14 → r ≠ 15 → N r = M r
theorem psame.rf {M : zI} : psame M M := fun _ _ _ => rfl
theorem psame.tr {M N P : zI} (h : psame M N) (k : psame N P) : psame M P := fun r h1 h2 => (k r h1 h2).trans (h r h1 h2)
theorem psame.z {M : zI} (a b : Nat) (u v : Int32) : psame M (zup (zup M 14 a u) 15 b v) := fun r h1 h2 => (zup_r h2).trans (zup_r h1)
theorem pczA_same : ∀ (j k : Nat) (M : zI), psame M (pczA j k M) := by
  intro j
  induction j with
  | zero => intro k M; exact psame.rf
  | succ j ih => intro k M; exact (psame.z _ _ _ _).tr (ih _ _)
theorem pclear_same (M : zI) (x : Int32) : psame M (pclear M x) := by
  unfold pclear
  split
  · exact psame.rf
  · exact pczA_same _ _ _
theorem pgrA_same (r0 : Nat) : ∀ (j : Nat) (b : Int32) (M : zI), psame M (pgrA r0 j b M).2 := by
  intro j
  induction j with
  | zero => intro b M; exact psame.rf
  | succ j ih => intro b M; exact (psame.z _ _ _ _).tr (ih _ _)
theorem pgrow_same (M : zI) (x : Int32) : psame M (pgrow M x).2 := by
  unfold pgrow
  split
  · exact psame.rf
  · exact pgrA_same _ _ _ _
theorem pcl5_same : ∀ (j k : Nat) (M : zI), psame M (pcl5 j k M) := by
  intro j
  induction j with
  | zero => intro k M; exact psame.rf
  | succ j ih => intro k M; exact (pclear_same _ _).tr (ih _ _)
theorem pgr5_same : ∀ (j k : Nat) (b : Int32) (M : zI), psame M (pgr5 j k b M).2 := by
  intro j
  induction j with
  | zero => intro k b M; exact psame.rf
  | succ j ih => intro k b M; exact (pgrow_same _ _).tr (ih _ _ _)
theorem pclA_same {M N : zI} (h : psame M N) {w : Int32} : ∀ {k : Nat} {c : Int32}, pclA N w k c = pclA M w k c := by
  intro k
  induction k with
  | zero => intro c; rfl
  | succ k ih =>
    intro c
    unfold pclA
    rw [h 1 (by decide) (by decide), ih]
theorem pclV_same {M N : zI} (h : psame M N) : ∀ {k : Nat} {c : Int32}, pclV N k c ↔ pclV M k c := by
  intro k
  induction k with
  | zero => intro c; exact Iff.rfl
  | succ k ih =>
    intro c
    unfold pclV
    rw [h 1 (by decide) (by decide), ih]
theorem plpV.same {M N : zI} (h : psame M N) {x : Int32} (k : plpV M x) : plpV N x := by
  refine ⟨k.1, ?_, fun w => ?_⟩
  · unfold pclOk
    rw [h 1 (by decide) (by decide)]
    exact (pclV_same h).mpr k.2.1
  · unfold pclause
    rw [pclA_same h, h 1 (by decide) (by decide)]
    exact k.2.2 w
theorem pnV.same {M N : zI} (h : psame M N) {x : Int32} (k : pnV M x) : pnV N x := by
  have e1 := h 1 (by decide) (by decide)
  have e2 := h 2 (by decide) (by decide)
  have ek : pkind N x = pkind M x := congrFun e1 _
  have ea : parg N x = parg M x := congrFun e1 _
  have ep : ∀ q, ppart N x q = ppart M x q := fun q => congrFun e1 _
  unfold pnV
  rw [ek, ea, e1, e2]
  simp only [ep]
  exact ⟨k.1, k.2.1, fun q => (k.2.2.1 q).same h, k.2.2.2.1, k.2.2.2.2.1, k.2.2.2.2.2⟩
theorem pgrV.same {M N : zI} (h : psame M N) {x : Int32} (k : pgrV M x) : pgrV N x := by
  intro hx
  rw [h 11 (by decide) (by decide)]
  obtain ⟨k1, k2, k3, k4⟩ := k hx
  exact ⟨k1, k2, k3, fun n h1 h2 => (k4 n h1 h2).same h⟩
def pallV (M : zI) : Prop := ∀ k, k < 5 → pgrV M (M 2 k)
theorem pallV.same {M N : zI} (h : psame M N) (k : pallV M) : pallV N := fun q hq => by
  rw [h 2 (by decide) (by decide)]
  exact (k q hq).same h
set_option maxRecDepth 20000 in
theorem Rl_X12_clearIn {l : Launch} {d : Nat} {D : zD} {b0 : Nat} {g : zG} {f : zI} {o : Nat} (hW : RW b0 g o) (x : Int32) (e : Nat) (hx : iv 65000 x) (hx9 : ¬ x = -9) (he0 : e ≤ 65000) : ∀ (j k : Nat) (M : zI), k + j = e → M 11 (tn x) = nI e → zS l d D b0 mX12_clearIn 0 0 2 [some (.ref o), some (.int x), some (.int (nI k))] [] g (rv o f M) (zq D b0 (zEx none g (rv o f (pczA j k M)))) := by
  have hx1 := hx.1
  intro j
  induction j with
  | zero =>
    intro k M hk he
    refine z_iload1 dX12_clearIn_2 ?_
    refine z_bipush (v := (-9)) dX12_clearIn_3 (by decide) ?_
    refine z_icmp_eq (tgt := 38) dX12_clearIn_5 (by decide) (fun c5 => absurd c5 hx9) (fun c5 => ?_)
    refine z_iload2 dX12_clearIn_8 ?_
    refine z_aload0 dX12_clearIn_9 ?_
    refine z_getRs fl_RX12_44 (by decide) hW.o (hW.r 10 rfl) dX12_clearIn_10 ?_
    refine z_iload1 dX12_clearIn_13 ?_
    refine zr_ld hW (i := 10) rfl (by decide) (by decide) hx.2 (by omega) dX12_clearIn_14 ?_
    rw [he]
    refine z_icmp_ge (tgt := 38) dX12_clearIn_15 (by decide) (fun c15 => ?_) (fun c15 => absurd c15 (nI_nlt (by omega) (by omega)))
    refine z_ret dX12_clearIn_38 rfl ?_
    exact ⟨rfl, rfl, rfl, rfl, rfl⟩
  | succ j ih =>
    intro k M hk he
    have hk1 : k < 65000 := by omega
    refine z_iload1 dX12_clearIn_2 ?_
    refine z_bipush (v := (-9)) dX12_clearIn_3 (by decide) ?_
    refine z_icmp_eq (tgt := 38) dX12_clearIn_5 (by decide) (fun c5 => absurd c5 hx9) (fun c5 => ?_)
    refine z_iload2 dX12_clearIn_8 ?_
    refine z_aload0 dX12_clearIn_9 ?_
    refine z_getRs fl_RX12_44 (by decide) hW.o (hW.r 10 rfl) dX12_clearIn_10 ?_
    refine z_iload1 dX12_clearIn_13 ?_
    refine zr_ld hW (i := 10) rfl (by decide) (by decide) hx.2 (by omega) dX12_clearIn_14 ?_
    rw [he]
    refine z_icmp_ge (tgt := 38) dX12_clearIn_15 (by decide) (fun c15 => absurd (nI_lt (by omega) (by omega)) c15) (fun c15 => ?_)
    show zS _ _ _ _ _ _ _ 18 _ _ _ _ _
    refine z_aload0 dX12_clearIn_18 ?_
    refine z_getRs fl_RX12_53 (by decide) hW.o (hW.r 13 rfl) dX12_clearIn_19 ?_
    refine z_iload2 dX12_clearIn_22 ?_
    refine z_iconst (v := 0) dX12_clearIn_23 (by decide) ?_
    refine zr_st hW (i := 13) rfl (by decide) (by decide) (rfl : nI k = nI k) (by omega) dX12_clearIn_24 ?_
    refine z_aload0 dX12_clearIn_25 ?_
    refine z_getRs fl_RX12_56 (by decide) hW.o (hW.r 14 rfl) dX12_clearIn_26 ?_
    refine z_iload2 dX12_clearIn_29 ?_
    refine z_iconst (v := 0) dX12_clearIn_30 (by decide) ?_
    refine zr_st hW (i := 14) rfl (by decide) (by decide) (rfl : nI k = nI k) (by omega) dX12_clearIn_31 ?_
    refine z_iinc2 (y := 1) dX12_clearIn_32 (by decide) ?_
    show zS _ _ _ _ _ _ _ 35 _ _ _ _ _
    refine z_goto (tgt := 2) dX12_clearIn_35 (by decide) ?_
    rw [nI_1]
    exact ih (k + 1) (zup (zup M 14 k 0) 15 k 0) (by omega) (by rw [psame.z k k 0 0 11 (by decide) (by decide)]; exact he)
set_option maxRecDepth 20000 in
theorem R_X12_clearIn {l : Launch} {d : Nat} {D : zD} {b0 : Nat} {g : zG} {f M : zI} {o : Nat} (hW : RW b0 g o) (x : Int32) (hV : pgrV M x) : zM l d D b0 mX12_clearIn [.ref o, .int x] g (rv o f M) (zEx none g (rv o f (pclear M x))) := by
  refine zM.start zmd_X12_clearIn (Nat.le_of_ble_eq_true rfl) ⟨rfl, rfl, trivial⟩ [some (.ref o), some (.int x), none] rfl ?_
  refine z_iload1 dX12_clearIn_0 ?_
  refine z_istore2 dX12_clearIn_1 ?_
  by_cases c5 : x = -9
  · rw [show pclear M x = M from if_pos c5]
    refine z_iload1 dX12_clearIn_2 ?_
    refine z_bipush (v := (-9)) dX12_clearIn_3 (by decide) ?_
    refine z_icmp_eq (tgt := 38) dX12_clearIn_5 (by decide) (fun c => ?_) (fun c => absurd c5 c)
    refine z_ret dX12_clearIn_38 rfl ?_
    exact ⟨rfl, rfl, rfl, rfl, rfl⟩
  · obtain ⟨hx, he, hle, hN⟩ := hV c5
    have hx1 := hx.1
    have he1 := he.1
    rw [show pclear M x = _ from if_neg c5]
    have K := Rl_X12_clearIn (l := l) (d := d) (D := D) (f := f) hW x (tn (M 11 (tn x))) hx c5 (by omega) (tn (M 11 (tn x)) - tn x) (tn x) M (by omega) he.2
    rw [← hx.2] at K
    exact K
set_option maxRecDepth 20000 in
theorem Rl_X12_may1 {l : Launch} {d : Nat} {D : zD} {b0 : Nat} {g : zG} {f : zI} {o : Nat} (hW : RW b0 g o) (p a v r : Int32) (x6 : Option Value) (hd : 5 ≤ d) (Q : Nat → Nat → zKT → Prop) : ∀ (j k : Nat) (M : zI), k + j = 5 → pallV M → (∀ x5 : Int32, zS l d D b0 mX12_may 0 0 89 [some (.ref o), some (.int p), some (.int a), some (.int v), some (.int r), some (.int x5), x6] [] g (rv o f (pcl5 j k M)) Q) → zS l d D b0 mX12_may 0 0 66 [some (.ref o), some (.int p), some (.int a), some (.int v), some (.int r), some (.int (nI k)), x6] [] g (rv o f M) Q := by
  intro j
  induction j with
  | zero =>
    intro k M hk hV kk
    refine z_iload5 dX12_may_66 ?_
    refine z_iconst (v := 5) dX12_may_68 (by decide) ?_
    refine z_icmp_ge (tgt := 89) dX12_may_69 (by decide) (fun c6 => ?_) (fun c6 => absurd c6 (nI_nlt (a := k) (b := 5) (by omega) (by omega)))
    exact kk _
  | succ j ih =>
    intro k M hk hV kk
    have hk5 : k < 5 := by omega
    refine z_iload5 dX12_may_66 ?_
    refine z_iconst (v := 5) dX12_may_68 (by decide) ?_
    refine z_icmp_ge (tgt := 89) dX12_may_69 (by decide) (fun c6 => absurd (nI_lt (b := 5) (by omega) (by decide)) c6) (fun c6 => ?_)
    show zS _ _ _ _ _ _ _ 72 _ _ _ _ _
    refine z_aload0 dX12_may_72 ?_
    refine z_aload0 dX12_may_73 ?_
    refine z_getRs fl_RX12_14 (by decide) hW.o (hW.r 1 rfl) dX12_may_74 ?_
    refine z_iload5 dX12_may_77 ?_
    refine zr_ld hW (i := 1) rfl (by decide) (by decide) (rfl : nI k = nI k) (by omega) dX12_may_79 ?_
    refine z_callVv zmd_X12_clearIn rfl (by decide) zl_RX12_206 zin_X12_clearIn zsel_X12_clearIn (R_X12_clearIn (d := d - 1) hW _ (hV k hk5)) hW.o rfl rfl (by omega) rfl dX12_may_80 ?_
    refine z_iinc5 (y := 1) dX12_may_83 (by decide) ?_
    refine z_goto (tgt := 66) dX12_may_86 (by decide) ?_
    rw [nI_1]
    exact ih (k + 1) (pclear M (M 2 k)) (by omega) (hV.same (pclear_same _ _)) kk
set_option maxRecDepth 20000 in
theorem Rl_X12_may2 {l : Launch} {d : Nat} {D : zD} {b0 : Nat} {g : zG} {f : zI} {o : Nat} (hW : RW b0 g o) (p a v r : Int32) (hd : 5 ≤ d) (Q : Nat → Nat → zKT → Prop) (q0 : Int32 × zI) : ∀ (j k : Nat) (b : Int32) (M : zI), k + j = 5 → pallV M → pgr5 j k b M = q0 → (∀ x6 : Int32, zS l d D b0 mX12_may 0 0 131 [some (.ref o), some (.int p), some (.int a), some (.int v), some (.int r), some (.int q0.1), some (.int x6)] [] g (rv o f q0.2) Q) → zS l d D b0 mX12_may 0 0 103 [some (.ref o), some (.int p), some (.int a), some (.int v), some (.int r), some (.int b), some (.int (nI k))] [] g (rv o f M) Q := by
  intro j
  induction j with
  | zero =>
    intro k b M hk hV he kk
    rw [← he] at kk
    refine z_iload6 dX12_may_103 ?_
    refine z_iconst (v := 5) dX12_may_105 (by decide) ?_
    refine z_icmp_ge (tgt := 131) dX12_may_106 (by decide) (fun c6 => ?_) (fun c6 => absurd c6 (nI_nlt (a := k) (b := 5) (by omega) (by omega)))
    exact kk _
  | succ j ih =>
    intro k b M hk hV he kk
    have hk5 : k < 5 := by omega
    refine z_iload6 dX12_may_103 ?_
    refine z_iconst (v := 5) dX12_may_105 (by decide) ?_
    refine z_icmp_ge (tgt := 131) dX12_may_106 (by decide) (fun c6 => absurd (nI_lt (b := 5) (by omega) (by decide)) c6) (fun c6 => ?_)
    show zS _ _ _ _ _ _ _ 109 _ _ _ _ _
    refine z_iload5 dX12_may_109 ?_
    refine z_aload0 dX12_may_111 ?_
    refine z_aload0 dX12_may_112 ?_
    refine z_getRs fl_RX12_14 (by decide) hW.o (hW.r 1 rfl) dX12_may_113 ?_
    refine z_iload6 dX12_may_116 ?_
    refine zr_ld hW (i := 1) rfl (by decide) (by decide) (rfl : nI k = nI k) (by omega) dX12_may_118 ?_
    refine z_callVi zmd_X12_growsIn rfl (by decide) zl_RX12_209 zin_X12_growsIn zsel_X12_growsIn (R_X12_growsIn (d := d - 1) hW _ (hV k hk5) (by omega)) hW.o rfl rfl (by omega) rfl dX12_may_119 ?_
    refine z_ior dX12_may_122 ?_
    refine z_istore5 dX12_may_123 ?_
    refine z_iinc6 (y := 1) dX12_may_125 (by decide) ?_
    refine z_goto (tgt := 103) dX12_may_128 (by decide) ?_
    rw [nI_1]
    exact ih (k + 1) _ (pgrow M (M 2 k)).2 (by omega) (hV.same (pgrow_same _ _)) he kk
set_option maxRecDepth 20000 in
theorem Rl_X12_may3 {l : Launch} {d : Nat} {D : zD} {b0 : Nat} {g : zG} {f : zI} {o : Nat} (hW : RW b0 g o) (p a v r : Int32) (hd : 5 ≤ d) (Q : Nat → Nat → zKT → Prop) (M0 : zI) : ∀ (j : Nat) (b : Int32) (M : zI) (x6 : Option Value), ¬ b = 0 → pallV M → pmayT j M → pmayL j M = M0 → (∀ x5 x6 : Option Value, zS l d D b0 mX12_may 0 0 134 [some (.ref o), some (.int p), some (.int a), some (.int v), some (.int r), x5, x6] [] g (rv o f M0) Q) → zS l d D b0 mX12_may 0 0 92 [some (.ref o), some (.int p), some (.int a), some (.int v), some (.int r), some (.int b), x6] [] g (rv o f M) Q := by
  intro j
  induction j with
  | zero => intro b M x6 hb hV hT; exact absurd hT id
  | succ j ih =>
    intro b M x6 hb hV hT he kk
    refine z_iload5 dX12_may_92 ?_
    refine z_if_eq (tgt := 134) dX12_may_94 (by decide) (fun c => absurd c hb) (fun c94 => ?_)
    refine z_iconst (v := 0) dX12_may_97 (by decide) ?_
    refine z_istore5 dX12_may_98 ?_
    refine z_iconst (v := 0) dX12_may_100 (by decide) ?_
    refine z_istore6 dX12_may_101 ?_
    refine Rl_X12_may2 hW p a v r hd Q (pgr5 5 0 0 M) 5 0 0 M (by omega) hV rfl (fun x6 => ?_)
    refine z_goto (tgt := 92) dX12_may_131 (by decide) ?_
    by_cases c : (pgr5 5 0 0 M).1 = 0
    · rw [show pmayL (j + 1) M = _ from if_pos c] at he
      rw [he]
      refine z_iload5 dX12_may_92 ?_
      refine z_if_eq (tgt := 134) dX12_may_94 (by decide) (fun c => ?_) (fun c' => absurd c c')
      exact kk _ _
    · rw [show pmayL (j + 1) M = _ from if_neg c] at he
      exact ih _ _ _ c (hV.same (pgr5_same _ _ _ _)) (hT c) he kk
def pmayf : Nat := 40000
def proot (M : zI) (p : Int32) : Int32 := if p = -1 then M 2 0 else M 2 (1 + tn p)
def pmayM (M : zI) : zI := pmayL pmayf (pcl5 5 0 M)
def pmay (M : zI) (p a v : Int32) : Int32 × zI := if (p < -1 ∨ 3 < p) ∨ (a < 0 ∨ 5 < a) ∨ (v < 0 ∨ 3 < v) then (-1, M) else if proot M p = -9 then (-2, M) else (((pmayM M 14 (tn (proot M p))) >>> ((4 * a + v) &&& 31)) &&& 1, pmayM M)
def pmayV (M : zI) : Prop := pallV M ∧ pmayT pmayf (pcl5 5 0 M)
theorem zpm1 {p : Int32} (h : ¬ (p < -1 ∨ 3 < p)) (h1 : ¬ p = -1) (h2 : p < 0) : False := by
  apply h1
  have h3 := Int32.not_lt.mp (fun q => h (Or.inl q))
  rw [Int32.le_iff_toInt_le] at h3
  rw [Int32.lt_iff_toInt_lt] at h2
  have e1 : (-1 : Int32).toInt = -1 := by decide
  have e2 : (0 : Int32).toInt = 0 := by decide
  rw [e1] at h3
  rw [e2] at h2
  exact Int32.toInt_inj.mp (by rw [e1]; omega)
set_option maxRecDepth 20000 in
theorem Rt_X12_may_53 {l : Launch} {d : Nat} {D : zD} {b0 : Nat} {g : zG} {f M : zI} {o : Nat} (hW : RW b0 g o) (p a v r : Int32) (hr : r = proot M p) (hno : ¬ ((p < -1 ∨ 3 < p) ∨ (a < 0 ∨ 5 < a) ∨ (v < 0 ∨ 3 < v))) (hV : pmayV M) (hroot : ¬ proot M p = -9 → iv 65000 (proot M p)) (hd : 5 ≤ d) : zS l d D b0 mX12_may 0 0 53 [some (.ref o), some (.int p), some (.int a), some (.int v), some (.int r), none, none] [] g (rv o f M) (zq D b0 (zEx (some (.int (pmay M p a v).1)) g (rv o f (pmay M p a v).2))) := by
  show zS _ _ _ _ _ _ _ 53 _ _ _ _ _
  refine z_iload4 dX12_may_53 ?_
  refine z_bipush (v := (-9)) dX12_may_55 (by decide) ?_
  refine z_icmp_ne (tgt := 63) dX12_may_57 (by decide) (fun c57 => ?_) (fun c57 => ?_)
  · show zS _ _ _ _ _ _ _ 63 _ _ _ _ _
    refine z_iconst (v := 0) dX12_may_63 (by decide) ?_
    refine z_istore5 dX12_may_64 ?_
    have hq := hroot (by rw [← hr]; exact c57)
    rw [← hr] at hq
    have hq1 := hq.1
    refine Rl_X12_may1 hW p a v r none hd _ 5 0 M (by omega) hV.1 (fun x5 => ?_)
    refine z_iconst (v := 1) dX12_may_89 (by decide) ?_
    refine z_istore5 dX12_may_90 ?_
    refine Rl_X12_may3 hW p a v r hd _ (pmayM M) pmayf 1 _ none (by decide) (hV.1.same (pcl5_same _ _ _)) hV.2 rfl (fun x5 x6 => ?_)
    rw [show pmay M p a v = (((pmayM M 14 (tn r)) >>> ((4 * a + v) &&& 31)) &&& 1, pmayM M) from by rw [hr]; exact (if_neg hno).trans (if_neg (by rw [← hr]; exact c57))]
    generalize pmayM M = N
    show zS _ _ _ _ _ _ _ 134 _ _ _ _ _
    refine z_aload0 dX12_may_134 ?_
    refine z_getRs fl_RX12_53 (by decide) hW.o (hW.r 13 rfl) dX12_may_135 ?_
    refine z_iload4 dX12_may_138 ?_
    refine zr_ld hW (i := 13) rfl (by decide) (by decide) hq.2 (by omega) dX12_may_140 ?_
    refine z_iconst (v := 4) dX12_may_141 (by decide) ?_
    refine z_iload2 dX12_may_142 ?_
    refine z_imul dX12_may_143 ?_
    refine z_iload3 dX12_may_144 ?_
    refine z_iadd dX12_may_145 ?_
    refine z_ishr dX12_may_146 ?_
    refine z_iconst (v := 1) dX12_may_147 (by decide) ?_
    show zS _ _ _ _ _ _ _ 148 _ _ _ _ _
    refine z_iand dX12_may_148 ?_
    refine z_iret dX12_may_149 rfl ?_
    exact ⟨rfl, rfl, rfl, rfl, rfl⟩
  · show zS _ _ _ _ _ _ _ 60 _ _ _ _ _
    refine z_bipush (v := (-2)) dX12_may_60 (by decide) ?_
    refine z_iret dX12_may_62 rfl ?_
    rw [show pmay M p a v = (-2, M) from (if_neg hno).trans (if_pos (by rw [← hr]; exact c57))]
    exact ⟨rfl, rfl, rfl, rfl, rfl⟩
set_option maxRecDepth 20000 in
theorem R_X12_may {l : Launch} {d : Nat} {D : zD} {b0 : Nat} {g : zG} {f M : zI} {o : Nat} (hW : RW b0 g o) (p a v : Int32) (hV : pmayV M) (hroot : ¬ proot M p = -9 → iv 65000 (proot M p)) (hd : 5 ≤ d) : zM l d D b0 mX12_may [.ref o, .int p, .int a, .int v] g (rv o f M) (zEx (some (.int ((pmay M p a v).1))) g (rv o f ((pmay M p a v).2))) := by
  refine zM.start zmd_X12_may (Nat.le_of_ble_eq_true rfl) ⟨rfl, rfl, rfl, rfl, trivial⟩ [some (.ref o), some (.int p), some (.int a), some (.int v), none, none, none] rfl ?_
  refine z_iload1 dX12_may_0 ?_
  refine z_iconst (v := (-1)) dX12_may_1 (by decide) ?_
  refine z_iconst (v := 3) dX12_may_2 (by decide) ?_
  refine z_callSi zmd_X12_isIn zl_RX12_74 zst_X12_isIn (R_X12_isIn (d := d - 1) hW _ _ _) rfl rfl (by omega) rfl dX12_may_3 ?_
  refine z_if_eq (tgt := 27) dX12_may_6 (by decide) (fun c6 => ?_) (fun c6 => ?_)
  · show zS _ _ _ _ _ _ _ 27 _ _ _ _ _
    refine z_iconst (v := (-1)) dX12_may_27 (by decide) ?_
    refine z_iret dX12_may_28 rfl ?_
    rw [show pmay M p a v = (-1, M) from if_pos (by first | exact Or.inl (zBno c6) | exact Or.inr (Or.inl (zBno c15)) | exact Or.inr (Or.inr (zBno c24)))]
    exact ⟨rfl, rfl, rfl, rfl, rfl⟩
  · show zS _ _ _ _ _ _ _ 9 _ _ _ _ _
    refine z_iload2 dX12_may_9 ?_
    refine z_iconst (v := 0) dX12_may_10 (by decide) ?_
    refine z_iconst (v := 5) dX12_may_11 (by decide) ?_
    refine z_callSi zmd_X12_isIn zl_RX12_74 zst_X12_isIn (R_X12_isIn (d := d - 1) hW _ _ _) rfl rfl (by omega) rfl dX12_may_12 ?_
    refine z_if_eq (tgt := 27) dX12_may_15 (by decide) (fun c15 => ?_) (fun c15 => ?_)
    · show zS _ _ _ _ _ _ _ 27 _ _ _ _ _
      refine z_iconst (v := (-1)) dX12_may_27 (by decide) ?_
      refine z_iret dX12_may_28 rfl ?_
      rw [show pmay M p a v = (-1, M) from if_pos (by first | exact Or.inl (zBno c6) | exact Or.inr (Or.inl (zBno c15)) | exact Or.inr (Or.inr (zBno c24)))]
      exact ⟨rfl, rfl, rfl, rfl, rfl⟩
    · show zS _ _ _ _ _ _ _ 18 _ _ _ _ _
      refine z_iload3 dX12_may_18 ?_
      refine z_iconst (v := 0) dX12_may_19 (by decide) ?_
      refine z_iconst (v := 3) dX12_may_20 (by decide) ?_
      refine z_callSi zmd_X12_isIn zl_RX12_74 zst_X12_isIn (R_X12_isIn (d := d - 1) hW _ _ _) rfl rfl (by omega) rfl dX12_may_21 ?_
      refine z_if_ne (tgt := 29) dX12_may_24 (by decide) (fun c24 => ?_) (fun c24 => ?_)
      · show zS _ _ _ _ _ _ _ 29 _ _ _ _ _
        have hno : ¬ ((p < -1 ∨ 3 < p) ∨ (a < 0 ∨ 5 < a) ∨ (v < 0 ∨ 3 < v)) := fun q => q.elim (zByes c6) (fun q => q.elim (zByes c15) (zByes c24))
        refine z_iload1 dX12_may_29 ?_
        refine z_iconst (v := (-1)) dX12_may_30 (by decide) ?_
        refine z_icmp_ne (tgt := 43) dX12_may_31 (by decide) (fun c31 => ?_) (fun c31 => ?_)
        · show zS _ _ _ _ _ _ _ 43 _ _ _ _ _
          have hp4 : iv 4 p := iv_of (n := 3) (by decide) (fun q => q.elim (fun q => zpm1 (zByes c6) c31 q) (fun q => zByes c6 (Or.inr q)))
          have hp5 := hp4.1
          refine z_aload0 dX12_may_43 ?_
          refine z_getRs fl_RX12_14 (by decide) hW.o (hW.r 1 rfl) dX12_may_44 ?_
          refine z_iconst (v := 1) dX12_may_47 (by decide) ?_
          refine z_iload1 dX12_may_48 ?_
          refine z_iadd dX12_may_49 ?_
          refine zr_ld hW (i := 1) rfl (by decide) (by decide) (ixA (ixC 1) hp4.2) (by omega) dX12_may_50 ?_
          first
            | rw [show M 2 0 = proot M p from (if_pos c31).symm]
            | rw [show M 2 (1 + tn p) = proot M p from (if_neg c31).symm]
          generalize hr : proot M p = r0
          refine z_istore4 dX12_may_51 ?_
          exact Rt_X12_may_53 hW p a v r0 hr.symm hno hV hroot hd
        · show zS _ _ _ _ _ _ _ 34 _ _ _ _ _
          refine z_aload0 dX12_may_34 ?_
          refine z_getRs fl_RX12_14 (by decide) hW.o (hW.r 1 rfl) dX12_may_35 ?_
          refine z_iconst (v := 0) dX12_may_38 (by decide) ?_
          refine zr_ld hW (i := 1) rfl (by decide) (by decide) (ixC 0) (by decide) dX12_may_39 ?_
          refine z_goto (tgt := 51) dX12_may_40 (by decide) ?_
          show zS _ _ _ _ _ _ _ 51 _ _ _ _ _
          first
            | rw [show M 2 0 = proot M p from (if_pos c31).symm]
            | rw [show M 2 (1 + tn p) = proot M p from (if_neg c31).symm]
          generalize hr : proot M p = r0
          refine z_istore4 dX12_may_51 ?_
          exact Rt_X12_may_53 hW p a v r0 hr.symm hno hV hroot hd
      · show zS _ _ _ _ _ _ _ 27 _ _ _ _ _
        refine z_iconst (v := (-1)) dX12_may_27 (by decide) ?_
        refine z_iret dX12_may_28 rfl ?_
        rw [show pmay M p a v = (-1, M) from if_pos (by first | exact Or.inl (zBno c6) | exact Or.inr (Or.inl (zBno c15)) | exact Or.inr (Or.inr (zBno c24)))]
        exact ⟨rfl, rfl, rfl, rfl, rfl⟩
