/-! The law's small methods. -/
def lw (v n : Int32) : Int32 := (v &&& 2147483647) - (v &&& 2147483647) / n * n
def cellv (D : zD) (j : Nat) : Int32 := if j < zsN D then zsX D j else 747796405 * (nI j + 1)
theorem lw_lt (v : Int32) {n : Nat} (h0 : 0 < n) (hn : n < 2 ^ 31) : ∃ q, q < n ∧ lw v (nI n) = nI q := by
  have hnn : ¬ (v &&& 2147483647) < 0 := by
    have h31 : bt (v &&& 2147483647) 31 = false := by
      rw [b_and, show bt 2147483647 31 = false by decide +kernel, Bool.and_false]
    intro z
    have hm : (v &&& 2147483647).toBitVec.msb = false := by rw [BitVec.msb_eq_getLsbD_last]; exact h31
    rw [BitVec.msb_eq_toInt] at hm
    have := of_decide_eq_false hm
    rw [Int32.lt_iff_toInt_lt] at z
    have e0 : (0 : Int32).toInt = 0 := by decide
    rw [e0] at z
    exact this z
  obtain ⟨a, a1, a2⟩ := nI_of hnn
  refine ⟨a % n, Nat.mod_lt _ h0, ?_⟩
  unfold lw
  rw [a2]
  exact pk_rem a1 h0 hn
section LSM
variable {l : Launch} {d : Nat} {D : zD} {b0 n0 c c' k k' a : Nat} {g : zG} {f M : zI}
theorem L_low (v n : Int32) (hn : ¬ n = 0) : zM l d D b0 mL_low [.int v, .int n] g f (zEx (some (.int (lw v n))) g f) := by
  refine zM.start zmd_L_low (Nat.le_of_ble_eq_true rfl) ⟨rfl, rfl, trivial⟩ [some (.int v), some (.int n)] rfl ?_
  refine z_iload0 dL_low_0 ?_
  refine z_ldc dL_low_1 zk_RL_8 ?_
  refine z_iand dL_low_3 ?_
  refine z_iload1 dL_low_4 ?_
  refine z_irem dL_low_5 hn ?_
  refine z_iret dL_low_6 rfl ?_
  exact ⟨rfl, rfl, rfl, rfl, rfl⟩
theorem L_cell (j : Nat) (hj : j < 2 ^ 30) (hN : zsN D ≤ 260) : zM l d D b0 mL_cell [.ref (zsB D), .int (nI j)] g f (zEx (some (.int (cellv D j))) g f) := by
  refine zM.start zmd_L_cell (Nat.le_of_ble_eq_true rfl) ⟨rfl, rfl, trivial⟩ [some (.ref (zsB D)), some (.int (nI j))] rfl ?_
  refine z_iload1 dL_cell_0 ?_
  refine z_aload0 dL_cell_1 ?_
  refine z_slen dL_cell_2 ?_
  refine z_icmp_ge (tgt := 12) dL_cell_3 (by decide) (fun c3 => ?_) (fun c3 => ?_)
  · show zS _ _ _ _ _ _ _ 12 _ _ _ _ _
    have e : cellv D j = 747796405 * (nI j + 1) := if_neg (fun z => c3 (nI_lt z (by omega)))
    rw [e]
    refine z_ldc dL_cell_12 zk_RL_7 ?_
    refine z_iload1 dL_cell_14 ?_
    refine z_iconst (v := 1) dL_cell_15 (by decide) ?_
    refine z_iadd dL_cell_16 ?_
    refine z_imul dL_cell_17 ?_
    refine z_iret dL_cell_18 rfl ?_
    exact ⟨rfl, rfl, rfl, rfl, rfl⟩
  · show zS _ _ _ _ _ _ _ 6 _ _ _ _ _
    have hlt : j < zsN D := (nI_ltI (by omega) (by omega)).mp c3
    have e : cellv D j = zsX D j := if_pos hlt
    rw [e]
    refine z_aload0 dL_cell_6 ?_
    refine z_iload1 dL_cell_7 ?_
    refine z_sld rfl hlt dL_cell_8 ?_
    refine z_goto (tgt := 18) dL_cell_9 (by decide) ?_
    show zS _ _ _ _ _ _ _ 18 _ _ _ _ _
    refine z_iret dL_cell_18 rfl ?_
    exact ⟨rfl, rfl, rfl, rfl, rfl⟩
theorem L_sign (hO : OB b0 n0 c k M g f) (hk : 120 * k ≤ 64800) (hd : 1 ≤ d) (x : Int32) : zM l d D b0 mL_sign [.ref c, .int x] g f (OQ b0 n0 c k (pwrite M x).2 (pwrite M x).1 g f 0 0) := by
  refine zM.start zmd_L_sign (Nat.le_of_ble_eq_true rfl) ⟨rfl, rfl, trivial⟩ [some (.ref c), some (.int x)] rfl ?_
  refine z_aload0 dL_sign_0 ?_
  refine z_iload1 dL_sign_1 ?_
  refine z_callV zmd_X11_write rfl (by decide) zl_RL_9 zin_X11_write zsel_X11_write (O_write (d := d - 1) hO hk x) hO.inn rfl rfl (by omega) rfl dL_sign_2 (fun r1 g1 f1 mc1 ms1 q1 => ?_)
  obtain ⟨rfl, hc1, hs1, h1, k1⟩ := q1
  refine z_iret dL_sign_5 rfl ?_
  exact ⟨rfl, by omega, by omega, h1, k1⟩
theorem L_blank (hO : OB b0 n0 c k M g f) (hk : 120 * k ≤ 64800) (hd : 1 ≤ d) (x : Int32) : zM l d D b0 mL_blank [.ref c, .int x] g f (OQ b0 n0 c k (pwrite M 32).2 x g f 0 0) := by
  refine zM.start zmd_L_blank (Nat.le_of_ble_eq_true rfl) ⟨rfl, rfl, trivial⟩ [some (.ref c), some (.int x)] rfl ?_
  refine z_aload0 dL_blank_0 ?_
  refine z_bipush (v := 32) dL_blank_1 (by decide) ?_
  refine z_callV zmd_X11_write rfl (by decide) zl_RL_9 zin_X11_write zsel_X11_write (O_write (d := d - 1) hO hk 32) hO.inn rfl rfl (by omega) rfl dL_blank_3 (fun r1 g1 f1 mc1 ms1 q1 => ?_)
  obtain ⟨rfl, hc1, hs1, h1, k1⟩ := q1
  refine z_if_le (tgt := 13) dL_blank_6 (by decide) (fun c6 => ?_) (fun c6 => ?_)
  · show zS _ _ _ _ _ _ _ 13 _ _ _ _ _
    refine z_iload1 dL_blank_13 ?_
    refine z_iret dL_blank_14 rfl ?_
    exact ⟨rfl, by omega, by omega, h1, k1⟩
  · show zS _ _ _ _ _ _ _ 9 _ _ _ _ _
    refine z_iload1 dL_blank_9 ?_
    refine z_goto (tgt := 14) dL_blank_10 (by decide) ?_
    show zS _ _ _ _ _ _ _ 14 _ _ _ _ _
    refine z_iret dL_blank_14 rfl ?_
    exact ⟨rfl, by omega, by omega, h1, k1⟩
end LSM
