/-! The law's writer: an expression is written. -/
def vvw (D : zD) (fr tr : Nat) : Int32 := cellv D (fr + tr) >>> ((nI tr - nI tr / 3 * 3) &&& 31)
def mow (D : zD) (fr tr : Nat) : Int32 := vvw D fr tr >>> ((7 : Int32) &&& 31)
def svw (D : zD) (fr tr : Nat) : Int32 := if 14 ≤ tr then 0 else vvw D fr tr
def qW (D : zD) (fr tr : Nat) : Nat := tn (lw (svw D fr tr) 14)
def hbW (D : zD) (fr : Nat) (b : Int32) (mf : Bool) (tr : Nat) : List Nat := hbS b mf (qW D fr tr) (tn (lw (mow D fr tr) 3)) (tn (lw (mow D fr tr) 2)) (tn (lw (mow D fr tr >>> ((2 : Int32) &&& 31)) 10)) (tn (lw (mow D fr tr) 4)) (tn (lw (mow D fr tr >>> ((2 : Int32) &&& 31)) 3))
def hiW (D : zD) (fr : Nat) (b : Int32) (mf : Bool) (tr : Nat) : List WIt := hiS b mf (qW D fr tr) (tn (lw (mow D fr tr) 3)) (tn (lw (mow D fr tr >>> ((2 : Int32) &&& 31)) 3))
theorem lw_tn (v : Int32) {n : Nat} (h0 : 0 < n) (hn : n < 2 ^ 31) : tn (lw v (nI n)) < n ∧ lw v (nI n) = nI (tn (lw v (nI n))) := by
  obtain ⟨q, q1, q2⟩ := lw_lt v h0 hn
  rw [q2, tn_nI (by omega)]
  exact ⟨q1, rfl⟩
theorem qW_14 (D : zD) (fr : Nat) {tr : Nat} (h : 14 ≤ tr) : qW D fr tr = 0 := by
  unfold qW svw
  rw [if_pos h]
  decide +kernel
theorem hW_HDs (D : zD) (fr : Nat) (b : Int32) (mf : Bool) (tr : Nat) : HDs b mf tr (hbW D fr b mf tr) (hiW D fr b mf tr) :=
  hS_HDs (lw_tn _ (by decide) (by decide)).1 (lw_tn _ (by decide) (by decide)).1 (lw_tn _ (by decide) (by decide)).1 (lw_tn _ (by decide) (by decide)).1 (fun h => qW_14 D fr h)
def wI : List WIt → Nat
  | [] => 0
  | it :: J => (if it.1 = true then 2 else 1) + wI J
theorem wI_app : ∀ (I J : List WIt), wI (I ++ J) = wI I + wI J := by
  intro I
  induction I with
  | nil => intro J; exact (Nat.zero_add _).symm
  | cons y I ih =>
    intro J
    show (if y.1 = true then 2 else 1) + wI (I ++ J) = ((if y.1 = true then 2 else 1) + wI I) + wI J
    rw [ih]; omega
theorem wI_E {b : Int32} {mf : Bool} {J : List WIt} : wI (itE b mf :: J) = 2 + wI J := rfl
theorem wI_S {c : Nat} {J : List WIt} : wI (itS c :: J) = 1 + wI J := rfl
theorem hS_len {b : Int32} {mf : Bool} {q nm z dg z4 o : Nat} (hq : q < 14) : (hbS b mf q nm z dg z4 o).length ≤ 2 ∧ (hiS b mf q nm o).length ≤ 5 ∧ (hbS b mf q nm z dg z4 o).length + wI (hiS b mf q nm o) ≤ 8 ∧ (q = 0 → hiS b mf q nm o = []) := by
  have hs : q = 0 ∨ q = 1 ∨ q = 2 ∨ q = 3 ∨ q = 4 ∨ q = 5 ∨ q = 6 ∨ q = 7 ∨ q = 8 ∨ q = 9 ∨ q = 10 ∨ q = 11 ∨ q = 12 ∨ q = 13 := by omega
  have lf : q < 2 → (hbS b mf q nm z dg z4 o).length ≤ 2 ∧ (hiS b mf q nm o).length ≤ 5 ∧ (hbS b mf q nm z dg z4 o).length + wI (hiS b mf q nm o) ≤ 8 ∧ (q = 0 → hiS b mf q nm o = []) := fun h => by
    unfold hbS hiS
    rw [if_pos h, if_pos h]
    by_cases c : (b >>> (nI (23 + nm) &&& 31)) &&& 1 = 1
    · rw [if_pos c]; exact ⟨by show 1 ≤ 2; omega, by show 0 ≤ 5; omega, by show 1 + 0 ≤ 8; omega, fun _ => rfl⟩
    · rw [if_neg c]; exact ⟨by show 2 ≤ 2; omega, by show 0 ≤ 5; omega, by show 2 + 0 ≤ 8; omega, fun _ => rfl⟩
  rcases hs with rfl | rfl | rfl | rfl | rfl | rfl | rfl | rfl | rfl | rfl | rfl | rfl | rfl | rfl
  · exact lf (by decide)
  · exact lf (by decide)
  · exact ⟨by show 1 ≤ 2; omega, by show 2 ≤ 5; omega, by show 1 + (2 + (2 + 0)) ≤ 8; omega, fun h => absurd h (by decide)⟩
  · exact ⟨by show 1 ≤ 2; omega, by show 2 ≤ 5; omega, by show 1 + (2 + (2 + 0)) ≤ 8; omega, fun h => absurd h (by decide)⟩
  · exact ⟨by show 2 ≤ 2; omega, by show 2 ≤ 5; omega, by show 2 + (2 + (2 + 0)) ≤ 8; omega, fun h => absurd h (by decide)⟩
  · exact ⟨by show 2 ≤ 2; omega, by show 1 ≤ 5; omega, by show 2 + (2 + 0) ≤ 8; omega, fun h => absurd h (by decide)⟩
  · exact ⟨by show 2 ≤ 2; omega, by show 1 ≤ 5; omega, by show 2 + (2 + 0) ≤ 8; omega, fun h => absurd h (by decide)⟩
  · exact ⟨by show 1 ≤ 2; omega, by show 1 ≤ 5; omega, by show 1 + (2 + 0) ≤ 8; omega, fun h => absurd h (by decide)⟩
  · exact ⟨by show 2 ≤ 2; omega, by show 1 ≤ 5; omega, by show 2 + (2 + 0) ≤ 8; omega, fun h => absurd h (by decide)⟩
  · exact ⟨by show 1 ≤ 2; omega, by show 3 ≤ 5; omega, by show 1 + (2 + (2 + (2 + 0))) ≤ 8; omega, fun h => absurd h (by decide)⟩
  · cases mf
    · exact ⟨by show 2 ≤ 2; omega, by show 0 ≤ 5; omega, by show 2 + 0 ≤ 8; omega, fun h => absurd h (by decide)⟩
    · exact ⟨by show 1 ≤ 2; omega, by show 1 ≤ 5; omega, by show 1 + (2 + 0) ≤ 8; omega, fun h => absurd h (by decide)⟩
  · cases mf
    · exact ⟨by show 2 ≤ 2; omega, by show 0 ≤ 5; omega, by show 2 + 0 ≤ 8; omega, fun h => absurd h (by decide)⟩
    · exact ⟨by show 1 ≤ 2; omega, by show 1 ≤ 5; omega, by show 1 + (2 + 0) ≤ 8; omega, fun h => absurd h (by decide)⟩
  · exact ⟨by show 1 ≤ 2; omega, by show 5 ≤ 5; omega, by show 1 + (2 + (1 + (1 + (2 + (1 + 0))))) ≤ 8; omega, fun h => absurd h (by decide)⟩
  · exact ⟨by show 1 ≤ 2; omega, by show 5 ≤ 5; omega, by show 1 + (2 + (1 + (1 + (2 + (1 + 0))))) ≤ 8; omega, fun h => absurd h (by decide)⟩
theorem hW_len (D : zD) (fr : Nat) (b : Int32) (mf : Bool) (tr : Nat) : (hbW D fr b mf tr).length ≤ 2 ∧ (hiW D fr b mf tr).length + 5 * (14 - (tr + 1)) ≤ 5 * (14 - tr) ∧ (hbW D fr b mf tr).length + wI (hiW D fr b mf tr) + 6 * (14 - (tr + 1)) ≤ 2 + 6 * (14 - tr) ∧ (hiW D fr b mf tr).length + 4 * (14 - (tr + 1)) ≤ 1 + 4 * (14 - tr) := by
  have h := hS_len (b := b) (mf := mf) (q := qW D fr tr) (nm := tn (lw (mow D fr tr) 3)) (z := tn (lw (mow D fr tr) 2)) (dg := tn (lw (mow D fr tr >>> ((2 : Int32) &&& 31)) 10)) (z4 := tn (lw (mow D fr tr) 4)) (o := tn (lw (mow D fr tr >>> ((2 : Int32) &&& 31)) 3)) (lw_tn _ (by decide) (by decide)).1
  obtain ⟨h1, h2, h3, h4⟩ := h
  have h1 : (hbW D fr b mf tr).length ≤ 2 := h1
  have h2 : (hiW D fr b mf tr).length ≤ 5 := h2
  have h3 : (hbW D fr b mf tr).length + wI (hiW D fr b mf tr) ≤ 8 := h3
  rcases Nat.lt_or_ge tr 14 with ht | ht
  · exact ⟨h1, by omega, by omega, by omega⟩
  · have e : hiW D fr b mf tr = [] := h4 (qW_14 D fr ht)
    have e0 : (hiW D fr b mf tr).length = 0 := by rw [e]; rfl
    have e1 : wI (hiW D fr b mf tr) = 0 := by rw [e]; rfl
    exact ⟨h1, by omega, by omega, by omega⟩
section LWO
variable {l : Launch} {d : Nat} {D : zD} {b0 n0 c k a : Nat} {g0 g : zG} {f0 f M0 M : zI} {Q : Nat → Nat → zKT → Prop}
theorem wo_it {f : zI} {a : Nat} {it : WIt} {J : List WIt} (h : ARI (f a) (it :: J)) : f a J.length = enI it ∧ IOK it ∧ ARI (f a) J := ⟨h.1.1, h.1.2, h.2⟩
theorem WS.tail {tx : List Nat} {it : WIt} {J : List WIt} (h : WS b0 n0 c k a M0 g0 f0 M g f tx (it :: J)) : WS b0 n0 c k a M0 g0 f0 M g f tx J := ⟨h.1, h.2.1, h.2.2.1, h.2.2.2.1.2, h.2.2.2.2⟩
set_option maxHeartbeats 1000000 in
theorem L_wloop (hd : 3 ≤ d) (hNs : zsN D ≤ 260) {fr : Nat} (hfr : fr ≤ 40) {v0 had : Int32} {full : List Nat} {fin : Nat} (hend : ∀ (M : zI) (g : zG) (f : zI) (o8 o9 o10 : Option Value), WS b0 n0 c k a M0 g0 f0 M g f full [] → zS l d D b0 mL_writeOne 0 0 116 [some (.ref c), some (.ref (zsB D)), some (.int (nI fr)), some (.ref a), some (.int v0), some (.int had), some (.int (nI 0)), some (.int (nI fin)), o8, o9, o10] [] g f Q) :
    ∀ (F : Nat) (I : List WIt) (tr : Nat) (M : zI) (g : zG) (f : zI) (tx : List Nat) (o8 o9 o10 : Option Value), WS b0 n0 c k a M0 g0 f0 M g f tx I → I.length + 5 * (14 - tr) ≤ F → tx.length + wI I + 6 * (14 - tr) ≤ 120 → I.length + 4 * (14 - tr) ≤ 57 → tr + F ≤ 71 → tx ++ wrB (hbW D fr) (hiW D fr) F I tr = full → wrT (hiW D fr) F I tr = fin →
    zS l d D b0 mL_writeOne 0 0 23 [some (.ref c), some (.ref (zsB D)), some (.int (nI fr)), some (.ref a), some (.int v0), some (.int had), some (.int (nI I.length)), some (.int (nI tr)), o8, o9, o10] [] g f Q := by
  intro F
  induction F with
  | zero =>
    intro I tr M g f tx o8 o9 o10 h h1 h2 h3 h4 h5 h6
    obtain rfl : I = [] := List.length_eq_zero_iff.mp (by omega)
    have h5 : tx ++ [] = full := h5
    rw [List.append_nil] at h5
    subst h5
    have h6 : tr = fin := h6
    subst h6
    refine z_iload6 dL_writeOne_23 ?_
    refine z_if_le (tgt := 116) dL_writeOne_25 (by decide) (fun _ => ?_) (fun c25 => absurd c25 (by decide))
    show zS _ _ _ _ _ _ _ 116 _ _ _ _ _
    exact hend M g f o8 o9 o10 h
  | succ F ih =>
    intro I tr M g f tx o8 o9 o10 h h1 h2 h3 h4 h5 h6
    cases I with
    | nil =>
      have h5 : tx ++ [] = full := h5
      rw [List.append_nil] at h5
      subst h5
      have h6 : tr = fin := h6
      subst h6
      refine z_iload6 dL_writeOne_23 ?_
      refine z_if_le (tgt := 116) dL_writeOne_25 (by decide) (fun _ => ?_) (fun c25 => absurd c25 (by decide))
      show zS _ _ _ _ _ _ _ 116 _ _ _ _ _
      exact hend M g f o8 o9 o10 h
    | cons it J =>
      have hll : (it :: J).length = J.length + 1 := rfl
      rw [hll]
      obtain ⟨w1, w2, w3⟩ := wo_it h.2.2.2.1
      have ht := h.tail
      obtain ⟨ty, ch, b, mf⟩ := it
      cases ty
      · -- a sign
        have w1 : f a J.length = nI ch := w1
        have w2 : 32 ≤ ch ∧ ch ≤ 126 := w2
        have h5 : tx ++ ch :: wrB (hbW D fr) (hiW D fr) F J tr = full := h5
        have h6 : wrT (hiW D fr) F J tr = fin := h6
        have h2 : tx.length + (1 + wI J) + 6 * (14 - tr) ≤ 120 := h2
        refine z_iload6 dL_writeOne_23 ?_
        refine z_if_le (tgt := 116) dL_writeOne_25 (by decide) (fun c25 => absurd (nI_lt (a := 0) (by omega) (by omega)) c25) (fun _ => ?_)
        show zS _ _ _ _ _ _ _ 28 _ _ _ _ _
        refine z_iinc6 (y := (-1)) dL_writeOne_28 (by decide) ?_
        rw [pk_m1]
        refine z_aload3 dL_writeOne_31 ?_
        refine z_iload6 dL_writeOne_32 ?_
        refine z_ialdE h.1.2.2.1.1 h.1.2.2.1.2 rfl (by omega) (by decide) dL_writeOne_34 ?_
        rw [w1]
        refine z_istore9 dL_writeOne_35 ?_
        refine z_iload9 dL_writeOne_37 ?_
        refine z_sipush (v := 128) dL_writeOne_39 (by decide) ?_
        refine z_icmp_ge (tgt := 56) dL_writeOne_42 (by decide) (fun c42 => absurd (nI_lt (b := 128) (by omega) (by decide)) c42) (fun _ => ?_)
        show zS _ _ _ _ _ _ _ 45 _ _ _ _ _
        refine z_aload0 dL_writeOne_45 ?_
        refine z_iload9 dL_writeOne_46 ?_
        refine z_callS zmd_L_sign zl_RL_20 zst_L_sign (L_wsign (d := d - 1) ht (by omega) w2.1 w2.2 (by omega)) rfl rfl (by omega) rfl dL_writeOne_48 (fun r1 g1 f1 mc1 ms1 q1 => ?_)
        obtain ⟨⟨x1, rfl⟩, rfl, rfl, M1, u1⟩ := q1
        refine z_istore8 dL_writeOne_51 ?_
        refine z_goto (tgt := 113) dL_writeOne_53 (by decide) ?_
        show zS _ _ _ _ _ _ _ 113 _ _ _ _ _
        refine z_goto (tgt := 23) dL_writeOne_113 (by decide) ?_
        show zS _ _ _ _ _ _ _ 23 _ _ _ _ _
        have hlen : (tx ++ [ch]).length = tx.length + 1 := by simp
        exact ih J tr M1 g1 f1 (tx ++ [ch]) _ _ _ u1 (by omega) (by omega) (by omega) (by omega) (by rw [List.append_assoc]; exact h5) h6
      · -- an expression
        obtain ⟨jb, hjb, hb⟩ : BOK b := w2
        subst hb
        have w1 : f a J.length = enE (nI (8388608 * jb)) mf := w1
        obtain ⟨k1, k2, k3⟩ := enE_k jb hjb mf
        have h5 : tx ++ (hbW D fr (nI (8388608 * jb)) mf tr ++ wrB (hbW D fr) (hiW D fr) F (hiW D fr (nI (8388608 * jb)) mf tr ++ J) (tr + 1)) = full := h5
        have h6 : wrT (hiW D fr) F (hiW D fr (nI (8388608 * jb)) mf tr ++ J) (tr + 1) = fin := h6
        have h2 : tx.length + (2 + wI J) + 6 * (14 - tr) ≤ 120 := h2
        obtain ⟨y1, y2, y3, y4⟩ := hW_len D fr (nI (8388608 * jb)) mf tr
        -- the numbers that select
        have h103 : ∀ (o8 o9 : Option Value), zS l d D b0 mL_writeOne 0 0 103 [some (.ref c), some (.ref (zsB D)), some (.int (nI fr)), some (.ref a), some (.int v0), some (.int had), some (.int (nI J.length)), some (.int (nI (tr + 1))), o8, o9, some (.int (vvw D fr tr))] [.int (svw D fr tr), .int (if mf = true then 1 else 0), .int (nI (8388608 * jb)), .int (nI J.length), .ref a, .ref c] g f Q := fun o8 o9 => by
          refine z_iload10 dL_writeOne_103 ?_
          refine z_bipush (v := 7) dL_writeOne_105 (by decide) ?_
          refine z_ishr dL_writeOne_107 ?_
          refine z_callS zmd_L_begin zl_RL_31 zst_L_begin (L_begin (d := d - 1) ht (by omega) (by omega) (by omega) hjb mf (svw D fr tr) (mow D fr tr) (lw_tn _ (by decide) (by decide)).2 (lw_tn _ (by decide) (by decide)).1 (lw_tn _ (by decide) (by decide)).2 (lw_tn _ (by decide) (by decide)).1 (lw_tn _ (by decide) (by decide)).2 (lw_tn _ (by decide) (by decide)).1 (lw_tn _ (by decide) (by decide)).2 (lw_tn _ (by decide) (by decide)).1 (lw_tn _ (by decide) (by decide)).2 (lw_tn _ (by decide) (by decide)).1 (lw_tn _ (by decide) (by decide)).2 (lw_tn _ (by decide) (by decide)).1) rfl rfl (by omega) rfl dL_writeOne_108 (fun r1 g1 f1 mc1 ms1 q1 => ?_)
          obtain ⟨rfl, rfl, rfl, M1, u1⟩ := q1
          have u1 : WS b0 n0 c k a M0 g0 f0 M1 g1 f1 (tx ++ hbW D fr (nI (8388608 * jb)) mf tr) (hiW D fr (nI (8388608 * jb)) mf tr ++ J) := u1
          refine z_istore6 dL_writeOne_111 ?_
          refine z_goto (tgt := 23) dL_writeOne_113 (by decide) ?_
          show zS _ _ _ _ _ _ _ 23 _ _ _ _ _
          have hlen : (tx ++ hbW D fr (nI (8388608 * jb)) mf tr).length = tx.length + (hbW D fr (nI (8388608 * jb)) mf tr).length := List.length_append
          have hlen2 : (hiW D fr (nI (8388608 * jb)) mf tr ++ J).length = (hiW D fr (nI (8388608 * jb)) mf tr).length + J.length := List.length_append
          have hlen3 := wI_app (hiW D fr (nI (8388608 * jb)) mf tr) J
          exact ih (hiW D fr (nI (8388608 * jb)) mf tr ++ J) (tr + 1) M1 g1 f1 (tx ++ hbW D fr (nI (8388608 * jb)) mf tr) _ _ _ u1 (by omega) (by omega) (by omega) (by omega) (by rw [List.append_assoc]; exact h5) h6
        refine z_iload6 dL_writeOne_23 ?_
        refine z_if_le (tgt := 116) dL_writeOne_25 (by decide) (fun c25 => absurd (nI_lt (a := 0) (by omega) (by omega)) c25) (fun _ => ?_)
        show zS _ _ _ _ _ _ _ 28 _ _ _ _ _
        refine z_iinc6 (y := (-1)) dL_writeOne_28 (by decide) ?_
        rw [pk_m1]
        refine z_aload3 dL_writeOne_31 ?_
        refine z_iload6 dL_writeOne_32 ?_
        refine z_ialdE h.1.2.2.1.1 h.1.2.2.1.2 rfl (by omega) (by decide) dL_writeOne_34 ?_
        rw [w1]
        refine z_istore9 dL_writeOne_35 ?_
        refine z_iload9 dL_writeOne_37 ?_
        refine z_sipush (v := 128) dL_writeOne_39 (by decide) ?_
        refine z_icmp_ge (tgt := 56) dL_writeOne_42 (by decide) (fun _ => ?_) (fun c42 => absurd c42 k3)
        show zS _ _ _ _ _ _ _ 56 _ _ _ _ _
        refine z_aload1 dL_writeOne_56 ?_
        refine z_iload2 dL_writeOne_57 ?_
        refine z_iload7 dL_writeOne_58 ?_
        refine z_iadd dL_writeOne_60 ?_
        rw [show nI fr + nI tr = nI (fr + tr) from ixA rfl rfl]
        refine z_callSi zmd_L_cell zl_RL_26 zst_L_cell (L_cell (d := d - 1) (fr + tr) (by omega) hNs) rfl rfl (by omega) rfl dL_writeOne_61 ?_
        refine z_iload7 dL_writeOne_64 ?_
        refine z_iconst (v := 3) dL_writeOne_66 (by decide) ?_
        refine z_irem dL_writeOne_67 (by decide) ?_
        refine z_ishr dL_writeOne_68 ?_
        refine z_istore10 dL_writeOne_69 ?_
        refine z_iinc7 (y := 1) dL_writeOne_71 (by decide) ?_
        rw [show nI tr + 1 = nI (tr + 1) from ixA rfl (ixC 1)]
        refine z_aload0 dL_writeOne_74 ?_
        refine z_aload3 dL_writeOne_75 ?_
        refine z_iload6 dL_writeOne_76 ?_
        refine z_iload9 dL_writeOne_78 ?_
        refine z_ldc dL_writeOne_80 zk_RL_30 ?_
        refine z_iand dL_writeOne_82 ?_
        rw [k1]
        refine z_iload9 dL_writeOne_83 ?_
        refine z_bipush (v := 28) dL_writeOne_85 (by decide) ?_
        refine z_ishr dL_writeOne_87 ?_
        refine z_iconst (v := 1) dL_writeOne_88 (by decide) ?_
        refine z_iand dL_writeOne_89 ?_
        rw [k2]
        refine z_iload7 dL_writeOne_90 ?_
        refine z_bipush (v := 14) dL_writeOne_92 (by decide) ?_
        by_cases q : 14 ≤ tr
        · refine z_icmp_le (tgt := 101) dL_writeOne_94 (by decide) (fun y => absurd (nI_lt (a := 14) (by omega) (by omega)) y) (fun _ => ?_)
          show zS _ _ _ _ _ _ _ 97 _ _ _ _ _
          refine z_iconst (v := 0) dL_writeOne_97 (by decide) ?_
          refine z_goto (tgt := 103) dL_writeOne_98 (by decide) ?_
          show zS _ _ _ _ _ _ _ 103 _ _ _ _ _
          have e := h103 o8 (some (.int (enE (nI (8388608 * jb)) mf)))
          rw [show svw D fr tr = 0 from if_pos q] at e
          exact e
        · refine z_icmp_le (tgt := 101) dL_writeOne_94 (by decide) (fun _ => ?_) (fun y => absurd y (nI_nlt (a := 14) (by omega) (by omega)))
          show zS _ _ _ _ _ _ _ 101 _ _ _ _ _
          refine z_iload10 dL_writeOne_101 ?_
          have e := h103 o8 (some (.int (enE (nI (8388608 * jb)) mf)))
          rw [show svw D fr tr = vvw D fr tr from if_neg q] at e
          exact e
/-- what an expression's writing leads to -/
def WOQ (D : zD) (b0 n0 c k a fr : Nat) (v0 : Int32) (M : zI) (g : zG) (f : zI) : zP := fun r G F mc ms => r = some (.int (nI (wrT (hiW D fr) 71 [itE v0 false] 0))) ∧ mc = 0 ∧ ms = 0 ∧ ∃ M', OB b0 n0 c k M' G F ∧ ARR b0 G a ∧ TXT M' (wrB (hbW D fr) (hiW D fr) 71 [itE v0 false] 0) ∧ WM M M' ∧ KW c a g f G F
theorem L_writeOne (hO : OB b0 n0 c k M g f) (hk : 120 * k ≤ 64800) (hA : ARR b0 g a) (ha : a < n0) (hc : ¬ (c ≤ a ∧ a < c + 27)) (hd : 3 ≤ d) (hNs : zsN D ≤ 260) {fr : Nat} (hfr : fr ≤ 40) {v0 : Int32} (hv : v0 = 0 ∨ v0 = 8388608) : zM l d D b0 mL_writeOne [.ref c, .ref (zsB D), .int (nI fr), .ref a, .int v0] g f (WOQ D b0 n0 c k a fr v0 M g f) := by
  have hbk : BOK v0 := by
    rcases hv with rfl | rfl
    · exact ⟨0, by decide, rfl⟩
    · exact ⟨1, by decide, rfl⟩
  have he : (1073741824 : Int32) ||| v0 = enI (itE v0 false) := by
    rcases hv with rfl | rfl <;> decide +kernel
  refine zM.start zmd_L_writeOne (Nat.le_of_ble_eq_true rfl) ⟨rfl, rfl, rfl, rfl, rfl, trivial⟩ [some (.ref c), some (.ref (zsB D)), some (.int (nI fr)), some (.ref a), some (.int v0), none, none, none, none, none, none] rfl ?_
  refine z_aload0 dL_writeOne_0 ?_
  refine z_callV zmd_X11_wipe rfl (by decide) zl_RL_15 zin_X11_wipe zsel_X11_wipe (O_wipe (d := d - 1) hO hk) hO.inn rfl rfl (by omega) rfl dL_writeOne_1 (fun r1 g1 f1 mc1 ms1 q1 => ?_)
  obtain ⟨rfl, hc1, hs1, h1, k1⟩ := q1
  obtain rfl : mc1 = 0 := by omega
  obtain rfl : ms1 = 0 := by omega
  have hA1 := hA.le k1.1
  refine z_istore5 dL_writeOne_4 ?_
  refine z_iconst (v := 1) dL_writeOne_6 (by decide) ?_
  refine z_istore6 dL_writeOne_7 ?_
  refine z_iconst (v := 0) dL_writeOne_9 (by decide) ?_
  refine z_istore7 dL_writeOne_10 ?_
  refine z_iconst (v := 0) dL_writeOne_12 (by decide) ?_
  refine z_istore8 dL_writeOne_13 ?_
  refine z_aload3 dL_writeOne_15 ?_
  refine z_iconst (v := 0) dL_writeOne_16 (by decide) ?_
  refine z_ldc dL_writeOne_17 zk_RL_19 ?_
  refine z_iload4 dL_writeOne_19 ?_
  refine z_ior dL_writeOne_21 ?_
  rw [he]
  refine z_iastE hA1.1 hA1.2 rfl (by decide) (by decide) dL_writeOne_22 ?_
  have u0 : WS b0 n0 c k a M g f (zup M 0 8 0) g1 f1 [] [] := ⟨⟨h1, hk, hA1, ha, hc⟩, TXT.nil, ⟨fun r r0 _ => zup_r r0, fun j hj => zup_ne _ _ _ _ (Or.inr hj)⟩, trivial, k1.w⟩
  have u1 := u0.arr (it := itE v0 false) hbk
  refine L_wloop hd hNs hfr (full := wrB (hbW D fr) (hiW D fr) 71 [itE v0 false] 0) (fin := wrT (hiW D fr) 71 [itE v0 false] 0) (fun M2 g2 f2 o8 o9 o10 h2 => ?_) 71 [itE v0 false] 0 _ _ _ [] _ _ _ u1 (by show 1 + 70 ≤ 71; omega) (by show 0 + (2 + 0) + 84 ≤ 120; omega) (by show 1 + 56 ≤ 57; omega) (by decide) rfl rfl
  refine z_iload7 dL_writeOne_116 ?_
  refine z_iret dL_writeOne_118 rfl ?_
  exact ⟨rfl, rfl, rfl, M2, h2.1.1, h2.1.2.2.1, h2.2.1, h2.2.2.1, h2.2.2.2.2⟩
end LWO
