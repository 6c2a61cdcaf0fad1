/-! The law's loop, its beginning, its end. -/
section LLOOP
variable {F : LF} {n0 c o : Nat}
/-- the cells so far, k calls in, with a text of L -/
def PB (k L cs : Nat) : Prop := (L ≤ 112 → cs + 105 * L ≤ 47 + 341 * k) ∧ (113 ≤ L → cs + 23 * (512 - k) ≤ 47 + 341 * k)
theorem PB.step {k L L' cs mc : Nat} (h : PB k L cs) (hk : k < 512) (hT : Tk L L' mc) : PB (k + 1) L' (cs + mc) := by
  unfold PB at h ⊢
  unfold Tk at hT
  omega
theorem PB.skip {k L cs : Nat} (h : PB k L cs) (hk : k < 512) : PB (k + 1) L cs := by
  unfold PB at h ⊢
  omega
theorem PB.room {k L cs : Nat} (h : PB k L cs) (hk : k ≤ 512) : cs ≤ 175071 := by
  unfold PB at h
  omega
theorem PB.room1 {k L cs : Nat} (h : PB k L cs) (hk : k < 512) : cs + 364 ≤ 175071 := by
  unfold PB at h
  omega
set_option maxRecDepth 20000 in
theorem L_loop (X : LX F) (hend : ∀ (L : List (Option Value)) (g : zG) (f : zI), LW F 175071 8577036 601 L [] g f) : ∀ (n k q : Nat) (g : zG) (f : zI) (cs : Nat), n + k = 512 → q ≤ k → PB k (Ln c f) cs → JS F.s.heap.size n0 c o q g f → LW F cs (1397448 + 11256 * k) 18 (LL F c o k) [] g f := by
  have hN := X.2.2.2.2
  intro n
  induction n with
  | zero =>
    intro k q g f cs hn hq hP hJ
    refine L_iload X dL_law_18 rfl rfl ?_
    refine L_aload X dL_law_19 rfl rfl ?_
    refine L_slen X dL_law_20 ?_
    refine L_iconst (v := nI 4) X dL_law_21 (by decide) ?_
    refine L_isub X dL_law_22 ?_
    refine L_icmp_gt X dL_law_23 (tgt := 601) rfl (fun _ => LW.widen (hP.room (by omega)) (by omega) (hend _ g f)) (fun h => ?_)
    have := (not_congr Int32.lt_iff_toInt_lt).mp h
    rw [pk_sub_toInt (by omega) (by omega)] at this
    have e := pk_sub_toInt (a := 4 * k) (b := 0) (by omega) (by omega)
    rw [show nI (4 * k) - nI 0 = nI (4 * k) from pk_sub (Nat.zero_le _)] at e
    omega
  | succ n ih =>
    intro k q g f cs hn hq hP hJ
    refine L_iload X dL_law_18 rfl rfl ?_
    refine L_aload X dL_law_19 rfl rfl ?_
    refine L_slen X dL_law_20 ?_
    refine L_iconst (v := nI 4) X dL_law_21 (by decide) ?_
    refine L_isub X dL_law_22 ?_
    refine L_icmp_gt X dL_law_23 (tgt := 601) rfl (fun _ => LW.widen (hP.room (by omega)) (by omega) (hend _ g f)) (fun h => ?_)
    have h4 : 4 * k + 4 ≤ F.N := by
      have := (not_congr Int32.lt_iff_toInt_lt).mp h
      rw [pk_sub_toInt (by omega) (by omega)] at this
      have e := pk_sub_toInt (a := 4 * k) (b := 0) (by omega) (by omega)
      rw [show nI (4 * k) - nI 0 = nI (4 * k) from pk_sub (Nat.zero_le _)] at e
      omega
    have back : ∀ (q' cs' ns' : Nat) (g' : zG) (f' : zI), q' ≤ k + 1 → PB (k + 1) (Ln c f') cs' → ns' ≤ 1397448 + 11256 * k + 11256 → JS F.s.heap.size n0 c o q' g' f' → LW F cs' ns' 595 (LL F c o k) [] g' f' := by
      intro q' cs' ns' g' f' hq' hc' hs' hJ'
      refine L_iinc (i := 3) (y := nI (4 * (k + 1))) X dL_law_595 rfl (ixA rfl (show Int32.ofInt 4 = nI 4 by decide)) ?_
      refine L_goto X dL_law_598 (tgt := 18) rfl ?_
      show LW F _ _ 18 (LL F c o (k + 1)) [] _ _
      have w2 : ns' ≤ 1397448 + 11256 * (k + 1) := by rw [Nat.mul_add, ← Nat.add_assoc]; exact hs'
      exact LW.widen (Nat.le_refl _) w2 (ih (k + 1) q' g' f' cs' (by omega) hq' hc' hJ')
    have kk : LK F n0 c o q k cs (1397448 + 11256 * k) f := fun mc ns' g' f' hT hs' hJ' => back (q + 1) (cs + mc) ns' g' f' (by omega) (hP.step (by omega) hT) hs' hJ'
    have hk : 120 * (q + 1) ≤ 64800 := by omega
    have hc : cs + 364 ≤ 175071 := hP.room1 (by omega)
    have hs : 1397448 + 11256 * k + 11256 ≤ 8577036 := by omega
    refine L_aload X dL_law_26 rfl rfl ?_
    refine L_iload X dL_law_27 rfl rfl ?_
    refine L_sld X (j := 4 * k) rfl (by omega) dL_law_28 ?_
    refine L_bipush (v := 31) X dL_law_29 (by decide) ?_
    refine L_iand X dL_law_31 ?_
    refine L_tab X dL_law_32 rfl (by decide) ?_
    exact ⟨fun _ => L_write X hJ hk h4 hc hs kk, fun _ => ⟨fun _ => L_wipe X hJ hk h4 hc hs kk, fun _ => ⟨fun _ => L_fault X hJ hk h4 hc hs kk, fun _ => ⟨fun _ => L_load X hJ hk h4 hc hs kk, fun _ => ⟨fun _ => L_define X hJ hk h4 hc hs kk, fun _ => ⟨fun _ => L_undefine X hJ hk h4 hc hs kk, fun _ => ⟨fun _ => L_restart X hJ hk h4 hc hs kk, fun _ => ⟨fun _ => L_listing X hJ hk h4 hc hs kk, fun _ => ⟨fun _ => L_may X hJ hk h4 hc hs kk, fun _ => ⟨fun _ => L_run X hJ hk h4 hc hs kk, fun _ => ⟨fun _ => L_answer X hJ hk h4 hc hs kk, fun _ => ⟨fun _ => L_drop X hJ hk h4 hc hs kk, fun _ => ⟨fun _ => L_told X hJ hk h4 hc hs kk, fun _ => ⟨fun _ => L_value X hJ hk h4 hc hs kk, fun _ => ⟨fun _ => L_focus X hJ hk h4 hc hs kk, fun _ => ⟨fun _ => L_trace X hJ hk h4 hc hs kk, fun _ => ⟨fun _ => L_performed X hJ hk h4 hc hs kk, fun _ => ⟨fun _ => L_frame X hJ hk h4 hc hs kk, fun _ => ⟨fun _ => L_handler X hJ hk h4 hc hs kk, fun _ => ⟨fun _ => L_keep X hJ hk h4 hc hs kk, fun _ => ⟨fun _ => L_back X hJ hk h4 hc hs kk, fun _ => back q _ _ g f (by omega) (hP.skip (by omega)) (by omega) hJ⟩⟩⟩⟩⟩⟩⟩⟩⟩⟩⟩⟩⟩⟩⟩⟩⟩⟩⟩⟩⟩
theorem L_start (X : LX F) (hend : ∀ (L : List (Option Value)) (g : zG) (f : zI), LW F 175071 8577036 601 L [] g f) : LW F 0 0 0 [some (.ref F.b), none, none, none] [] (g00 F.s.heap.size) f00 := by
  refine L_new X zcls_X11 zc_RL_7 zi_RX11 zini_RX11 (by decide) (by decide) dL_law_0 ?_
  refine L_dup X dL_law_3 ?_
  refine L_callI X zmd_X11_init rfl rfl zl_RL_9 zin_X11_init (H_X11 (d := 8) F.s.heap.size (by decide)) rfl rfl (by decide) rfl dL_law_4 (fun r g' f' mc ms h => ⟨by have := h.2.1; omega, by have := h.2.2.1; omega⟩) (fun r1 g1 f1 mc1 ms1 h1 => ?_)
  obtain ⟨rfl, hc1, hs1, rfl, rfl, hok⟩ := h1
  refine L_astore (i := 1) X dL_law_7 rfl (by simp) ?_
  refine L_new X zcls_X12 zc_RL_10 zi_RX12 zini_RX12 (by omega) (by omega) dL_law_8 ?_
  rw [G11_1]
  refine L_dup X dL_law_11 ?_
  refine L_callI X zmd_X12_init rfl rfl zl_RL_12 zin_X12_init (H_X12 (d := 8) F.s.heap.size (by decide) hok) rfl rfl (by decide) rfl dL_law_12 (fun r g' f' mc ms h => ⟨by have := h.2.1; omega, by have := h.2.2.1; omega⟩) (fun r2 g2 f2 mc2 ms2 h2 => ?_)
  obtain ⟨rfl, rfl, rfl, hJ, hf0⟩ := h2
  refine L_astore (i := 2) X dL_law_15 rfl (by simp) ?_
  refine L_iconst (v := nI 0) X dL_law_16 (by decide) ?_
  refine L_istore (i := 3) X dL_law_17 rfl (by simp) ?_
  exact LW.widen (by omega) (by omega) (L_loop X hend 512 0 0 g2 f2 47 (by decide) (by decide) (by
    have e : Ln F.s.heap.size f2 = 0 := by unfold Ln; rw [hf0]; rfl
    show PB 0 (Ln F.s.heap.size f2) 47
    rw [e]
    exact ⟨fun _ => by decide, fun z => absurd z (by decide)⟩) hJ)
end LLOOP
