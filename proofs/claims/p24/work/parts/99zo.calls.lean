/-! The calls of an object. -/
set_option maxRecDepth 20000 in
theorem B_X11_run_b {l : Launch} {d : Nat} {D : zD} {b0 : Nat} {g : zG} {f C : zI} {R : zRf} {c : Nat} (hW : CW b0 g c) (hw : zOK b0 zNo (gv c g R)) (x : Int32) (hx : x < 1 ∨ 200 < x) : zM l d D b0 mX11_run [.ref (c + 0), .int x] (gv c g R) (cv c f C) (zCy b0 zNo c g (some (.int (brunM g R f C x).2)) (brunM g R f C x).1.1 (brunM g R f C x).1.2.1 (brunM g R f C x).1.2.2.1 (brunM g R f C x).1.2.2.2 0 0) := by
  rw [brunM_b hx]
  refine zM.start zmd_X11_run (Nat.le_of_ble_eq_true rfl) ⟨rfl, rfl, trivial⟩ [some (.ref (c + 0)), some (.int x), none] rfl ?_
  refine z_iload1 dX11_run_0 ?_
  refine z_iconst (v := 1) dX11_run_1 (by decide) ?_
  refine z_icmp_lt (tgt := 12) dX11_run_2 (by decide) (fun c2 => ?_) (fun c2 => ?_)
  · show zS _ _ _ _ _ _ _ 12 _ _ _ _ _
    refine z_iconst (v := (-1)) dX11_run_12 (by decide) ?_
    refine z_iret dX11_run_13 rfl ?_
    exact ⟨rfl, rfl, rfl, by omega, by omega, hw, zLe.rf, hW⟩
  · show zS _ _ _ _ _ _ _ 5 _ _ _ _ _
    refine z_iload1 dX11_run_5 ?_
    refine z_sipush (v := 200) dX11_run_6 (by decide) ?_
    refine z_icmp_le (tgt := 14) dX11_run_9 (by decide) (fun c9 => absurd hx (fun q => q.elim c2 (by first | exact c9 | (intro q2; exact c9 q2)))) (fun c9 => ?_)
    show zS _ _ _ _ _ _ _ 12 _ _ _ _ _
    refine z_iconst (v := (-1)) dX11_run_12 (by decide) ?_
    refine z_iret dX11_run_13 rfl ?_
    exact ⟨rfl, rfl, rfl, by omega, by omega, hw, zLe.rf, hW⟩

section OCALLS
variable {l : Launch} {d : Nat} {D : zD} {b0 n0 c k : Nat} {g : zG} {f M : zI}
theorem O_write (h : OB b0 n0 c k M g f) (hk : 120 * k ≤ 64800) (x : Int32) : zM l d D b0 mX11_write [.ref c, .int x] g f (OQ b0 n0 c k (pwrite M x).2 (pwrite M x).1 g f 0 0) := by
  obtain ⟨g, R, f, C, t, y, n, ⟨rfl, rfl⟩, ⟨hW, hF, hw⟩, h, h26⟩ := h
  obtain ⟨a1, a2, a3⟩ := h.write (Nat.le_refl k) hk x
  exact OQ.mk (B_X11_write hW hF hw x a1) a2 hF (fun _ _ => ⟨rfl, fun _ => rfl, fun _ _ => rfl⟩) a3 rfl h26
theorem O_wipe (h : OB b0 n0 c k M g f) (hk : 120 * k ≤ 64800) : zM l d D b0 mX11_wipe [.ref c] g f (OQ b0 n0 c k (zup M 0 8 0) (M 0 8) g f 0 0) := by
  obtain ⟨g, R, f, C, t, y, n, ⟨rfl, rfl⟩, ⟨hW, hF, hw⟩, h, h26⟩ := h
  obtain ⟨a2, a3⟩ := h.wipe (Nat.le_refl k) hk
  exact OQ.mk (B_X11_wipe hW hF hw) a2 hF (fun _ _ => ⟨rfl, fun _ => rfl, fun _ _ => rfl⟩) a3 rfl h26
theorem O_fault (h : OB b0 n0 c k M g f) (hk : 120 * k ≤ 64800) (hd : 7 ≤ d) (x : Int32) : zM l d D b0 mX11_fault [.ref c, .int x] g f (OQ b0 n0 c (k + 1) M (pfault M x).1 g f 360 2880) := by
  obtain ⟨g, R, f, C, t, y, n, ⟨rfl, rfl⟩, ⟨hW, hF, hw⟩, h, h26⟩ := h
  obtain ⟨-, -, -, -, -, len, l1, l2, l3⟩ := h.nums
  obtain ⟨a2, a3, a4⟩ := h.fault0 hk l1 l3 x
  obtain ⟨e1, e2⟩ := h.lo_fault hk hF l1 l3 x
  refine (OQ.mk (B_X11_fault hW hF hw x len l1 l3 h.2.1.2.1 (EOs.EO h.1.2.1) hd) a2 e1 (fun y hy => ⟨(e2 y hy).1, fun _ => (e2 y hy).2, fun _ _ => by rw [(e2 y hy).2]⟩) a3 a4 h26).mono (fun r G F mc ms q => ?_)
  obtain ⟨q1, q2, q3, q4⟩ := q
  exact ⟨q1, by omega, by omega, q4⟩
theorem WQ.r26 {t : zTs} {y : zGs} {n : zNs} {R : zRf} {C : zI} (h : WQ b0 n0 c k (g, R, f, C) M t y n) (hk : 120 * k ≤ 64800) {len : Nat} (hlen : C 0 1 = nI len) (hl : len ≤ 120) (z : Int32) (hz : z = 0 ∨ z = 1) : (bread g R f C len z).1.2.1 26 = R 26 := by
  obtain ⟨⟨⟨w1, w2, w3⟩, w4, w5⟩, ⟨⟨len', tx, v1, v2⟩, v3, v4⟩, ⟨⟨u1, u2⟩, u3⟩, -⟩ := h
  have v2 : C 0 1 = nI len' := v2
  have hl' := v1.1
  have u2 : t.1 ≤ 120 * k := u2
  obtain rfl : len' = len := (nI_eq (by omega) (by omega)).mp (v2.symm.trans hlen)
  obtain ⟨-, p2, -⟩ := PARSE (b0 := b0) (n0 := n0) (g := g) (R := R) (f := f) (C := C) (M := M) (t := t) (how := z) (z := z) v1 ⟨w2, w3⟩ v4 v3 u1 (by omega) (by rcases hz with rfl | rfl <;> rfl)
  obtain ⟨-, -, -, -, a5, -⟩ := KB.wr (G := (bread g R f C len' z).1.1) (R' := (bread g R f C len' z).1.2.1) (F := (bread g R f C len' z).1.2.2.1) (C' := (bread g R f C len' z).1.2.2.2) p2
  exact a5 26 (by decide) (by decide) (by decide)
theorem O_define (h : OB b0 n0 c k M g f) (hk : 120 * (k + 1) ≤ 64800) (hd : 7 ≤ d) (x : Int32) : zM l d D b0 mX11_define [.ref c, .int x] g f (OQ b0 n0 c (k + 1) (pdefine M x).2 (pdefine M x).1 g f 364 3003) := by
  obtain ⟨g, R, f, C, t, y, n, ⟨rfl, rfl⟩, ⟨hW, hF, hw⟩, h, h26⟩ := h
  obtain ⟨-, -, -, -, -, len, l1, l2, l3⟩ := h.nums
  obtain ⟨a1, m, t', a4, a2, a3⟩ := h.define hk l1 l3 x
  obtain ⟨e1, e2⟩ := h.lo_define (by omega) hF l1 l3 x m
  have hr := h.r26 (by omega) l1 l3 1 (Or.inr rfl)
  have h26' : (bdefine g R f C len x m).1.2.1 26 = R 26 := by
    by_cases q : ¬ x < 0 ∧ x < 4
    · by_cases q9 : (bread g R f C len 1).2 = -9
      · rw [bdefine_d rfl q q9]
        refine Eq.trans ?_ hr
        exact zup_r (a := 18) (k := tn x) (v := some ((bread g R f C len 1).1.1.1 + 1)) (show (26 : Nat) ≠ 18 by decide)
      · rw [bdefine_s rfl q q9]; exact hr
    · rw [bdefine_b q]
  refine (OQ.mk (B_X11_define hW hF hw x len m l1 l3 h.2.1.2.1 (EOs.EO h.1.2.1) a4 hd) a2 e1 (fun y hy => ⟨(e2 y hy).1, fun _ => (e2 y hy).2, fun _ _ => by rw [(e2 y hy).2]⟩) a3 h26' h26).mono (fun r G F mc ms q => ?_)
  obtain ⟨q1, q2, q3, q4⟩ := q
  exact ⟨q1, by omega, by omega, q4⟩
theorem O_load (h : OB b0 n0 c k M g f) (hk : 120 * (k + 1) ≤ 64800) (hd : 7 ≤ d) : zM l d D b0 mX11_load [.ref c] g f (OQ b0 n0 c (k + 1) (pload M).2 (pload M).1 g f 364 3243) := by
  obtain ⟨g, R, f, C, t, y, n, ⟨rfl, rfl⟩, ⟨hW, hF, hw⟩, h, h26⟩ := h
  obtain ⟨-, -, -, -, -, len, l1, l2, l3⟩ := h.nums
  obtain ⟨a1, m, t', n', a4, a2, a6, a3⟩ := h.load hk l1 l3
  obtain ⟨e1, e2⟩ := h.lo_load (by omega) hF l1 l3 m 1000
  refine (OQ.mk (B_X11_load hW hF hw len m 1000 l1 l3 h.2.1.2.1 (EOs.EO h.1.2.1) a4 hd) a2 e1 (fun y hy => ⟨(e2 y hy).1, fun _ => (e2 y hy).2, fun _ _ => by rw [(e2 y hy).2]⟩) a3 a6 h26).mono (fun r G F mc ms q => ?_)
  obtain ⟨q1, q2, q3, q4⟩ := q
  exact ⟨q1, by omega, by omega, q4⟩
theorem CF.kfO {S T : bSt} (h : CF c S.2.1) (k : KF S T) : CF c T.2.1 := by
  obtain ⟨-, -, -, k4, k5, -⟩ := k
  refine h.of (fun q hq => ?_)
  have hk := (show ∀ q ∈ bF, (q.1 = 17 ∧ q.2.1 ≠ 4 ∧ q.2.1 ≠ 5) ∨ (q.1 ≠ 14 ∧ q.1 ≠ 17 ∧ q.1 ≠ 20) by decide) q hq
  rcases hk with ⟨h1, h2, h3⟩ | ⟨h1, h2, h3⟩
  · rw [h1]; exact k5 q.2.1 h2 h3
  · rw [k4 q.1 h1 h2 h3]
theorem KF.kO {S T : bSt} (k : KF S T) : (∀ y, y < S.1.1 → T.1.2.2.2 y = S.1.2.2.2 y ∧ (S.1.2.1 y ≠ 1 → T.2.2.1 y = S.2.2.1 y) ∧ ∀ j, j < 8 → T.2.2.1 y j = S.2.2.1 y j) ∧ T.2.1 26 = S.2.1 26 :=
  ⟨fun y hy => ⟨k.1.2 y hy, fun _ => k.2.1 y hy, fun _ _ => by rw [k.2.1 y hy]⟩, k.2.2.2.1 26 (by decide) (by decide) (by decide)⟩
theorem O_run (h : OB b0 n0 c k M g f) (hk : 120 * k ≤ 64800) (hd : 7 ≤ d) (x : Int32) : zM l d D b0 mX11_run [.ref c, .int x] g f (OQ b0 n0 c (k + 1) (prun M x).2 (prun M x).1 g f 335 11256) := by
  obtain ⟨g, R, f, C, t, y, n, ⟨rfl, rfl⟩, ⟨hW, hF, hw⟩, h, h26⟩ := h
  obtain ⟨-, -, -, -, a5, -⟩ := RQ.run h.2.2.2.1.1 h.2.2.2.1.2.2 h.1.1.2 (by omega) h.1.1.1 x
  obtain ⟨a1, a4, a6, a2, y', n', a3⟩ := h.run hk x
  have hCF : CF c (brunM g R f C x).1.2.1 := CF.kfO (S := (g, R, f, C)) hF a5
  have o1 : ∀ y, y < g.1 → (brunM g R f C x).1.1.2.2.2 y = g.2.2.2 y ∧ (g.2.1 y ≠ 1 → (brunM g R f C x).1.2.2.1 y = f y) ∧ ∀ j, j < 8 → (brunM g R f C x).1.2.2.1 y j = f y j := (KF.kO a5).1
  have o2 : (brunM g R f C x).1.2.1 26 = R 26 := (KF.kO a5).2
  by_cases q : x < 1 ∨ 200 < x
  · refine (OQ.mk (B_X11_run_b hW hw x q) a2 hCF o1 a3 o2 h26).mono (fun r G F mc ms z => ?_)
    obtain ⟨q1, q2, q3, q4⟩ := z
    exact ⟨q1, by omega, by omega, q4⟩
  · refine (OQ.mk (B_X11_run hW hF hw x a1 hd) a2 hCF o1 a3 o2 h26).mono (fun r G F mc ms z => ?_)
    obtain ⟨q1, q2, q3, q4⟩ := z
    obtain ⟨b1, b2⟩ := a6 q
    exact ⟨q1, by omega, by omega, q4⟩
theorem O_answer (h : OB b0 n0 c k M g f) (hk : 120 * k ≤ 64800) (hd : 2 ≤ d) (x : Int32) : zM l d D b0 mX11_answer [.ref c, .int x] g f (OQ b0 n0 c (k + 1) (panswer M x).2 (panswer M x).1 g f 0 0) := by
  obtain ⟨g, R, f, C, t, y, n, ⟨rfl, rfl⟩, ⟨hW, hF, hw⟩, h, h26⟩ := h
  obtain ⟨-, a5, -⟩ := RQ.answer h.2.2.2.1.1 h.2.2.2.1.2.2 x
  obtain ⟨a2, a3⟩ := h.answer hk x
  have o2 : (banswer R C x).2.1 26 = R 26 := (KF.kO a5).2
  exact OQ.mk (B_X11_answer hW hF hw x hd) a2 (CF.kfO (S := (g, R, f, C)) hF a5) (fun _ _ => ⟨rfl, fun _ => rfl, fun _ _ => rfl⟩) a3 o2 h26
theorem O_drop (h : OB b0 n0 c k M g f) (hk : 120 * k ≤ 64800) (hd : 4 ≤ d) (x : Int32) : zM l d D b0 mX11_drop [.ref c, .int x] g f (OQ b0 n0 c (k + 1) (pdrop M x).2 (pdrop M x).1 g f 3 107) := by
  obtain ⟨g, R, f, C, t, y, n, ⟨rfl, rfl⟩, ⟨hW, hF, hw⟩, h, h26⟩ := h
  obtain ⟨l1, l2, -⟩ := h.nums
  obtain ⟨-, -, a5, -⟩ := RQ.drop h.2.2.2.1.1 h.2.2.2.1.2.2 h.1.1.2 x
  obtain ⟨a2, -, y', n', a3⟩ := h.drop hk x
  have o1 : ∀ y, y < g.1 → (bdrop g R f C x n.1).1.1.2.2.2 y = g.2.2.2 y ∧ (g.2.1 y ≠ 1 → (bdrop g R f C x n.1).1.2.2.1 y = f y) ∧ ∀ j, j < 8 → (bdrop g R f C x n.1).1.2.2.1 y j = f y j := (KF.kO a5).1
  have o2 : (bdrop g R f C x n.1).1.2.1 26 = R 26 := (KF.kO a5).2
  exact OQ.mk (B_X11_drop hW hF hw x n.1 l1 l2 hd) a2 (CF.kfO (S := (g, R, f, C)) hF a5) o1 a3 o2 h26
theorem O_may (h : OB b0 n0 c k M g f) (hk : 120 * k ≤ 64800) (hd : 6 ≤ d) (p a v : Int32) : zM l d D b0 mX11_may [.ref c, .int p, .int a, .int v] g f (OQ b0 n0 c (k + 1) M (pmay M p a v).1 g f 0 0) := by
  obtain ⟨g, R, f, C, t, y, n, ⟨rfl, rfl⟩, ⟨hW, hF, hw⟩, h, h26⟩ := h
  obtain ⟨-, b1, b2⟩ := h.mayV hk
  obtain ⟨a1, a4, a5, a2, a6, a3⟩ := h.may hk p a v
  exact OQ.mk (B_X11_may hW hF hw p a v 39000 (by omega) b1 b2 a5 hd) a2 hF (fun y hy => ⟨rfl, (a6 y).1, (a6 y).2⟩) (h.mayW hk a6 (fun _ _ _ => rfl)) rfl h26
/-! What an object tells. -/
theorem O_told (h : OB b0 n0 c k M g f) (hd : 2 ≤ d) (x : Int32) : zM l d D b0 mX11_told [.ref c, .int x] g f (zEx (some (.int (ptold M x))) g f) := by
  obtain ⟨g, R, f, C, t, y, n, ⟨rfl, rfl⟩, ⟨hW, hF, hw⟩, h, h26⟩ := h
  obtain ⟨-, -, l7, -, -, len, l1, l2, l3⟩ := h.nums
  have e : btold R C x = ptold M x := h.2.2.2.1.1.told (l1.trans l2.symm) x
  have q := B_X11_told (l := l) (d := d) (D := D) (f := f) (C := C) hW hF hw x hd
  rw [e] at q
  exact q
theorem O_value (h : OB b0 n0 c k M g f) : zM l d D b0 mX11_value [.ref c] g f (zEx (some (.int (pvalue M))) g f) := by
  obtain ⟨g, R, f, C, t, y, n, ⟨rfl, rfl⟩, ⟨hW, hF, hw⟩, h, h26⟩ := h
  have e : bvalue R C = pvalue M := h.2.2.2.1.1.value
  have q := B_X11_value (l := l) (d := d) (D := D) (f := f) (C := C) hW hF hw
  rw [e] at q
  exact q
theorem O_focus (h : OB b0 n0 c k M g f) : zM l d D b0 mX11_focus [.ref c] g f (zEx (some (.int (pfocus M))) g f) := by
  obtain ⟨g, R, f, C, t, y, n, ⟨rfl, rfl⟩, ⟨hW, hF, hw⟩, h, h26⟩ := h
  have e : bfocus R C = pfocus M := h.2.2.2.1.1.focus
  have q := B_X11_focus (l := l) (d := d) (D := D) (f := f) (C := C) hW hF hw
  rw [e] at q
  exact q
theorem O_trace (h : OB b0 n0 c k M g f) (x : Int32) : zM l d D b0 mX11_trace [.ref c, .int x] g f (zEx (some (.int (ptrace M x))) g f) := by
  obtain ⟨g, R, f, C, t, y, n, ⟨rfl, rfl⟩, ⟨hW, hF, hw⟩, h, h26⟩ := h
  obtain ⟨e, a1, a4⟩ := h.2.2.2.1.1.trace x
  have e : btrace C x = ptrace M x := e
  have q := B_X11_trace (l := l) (d := d) (D := D) (f := f) (C := C) hW hF hw x a1
  rw [e] at q
  exact q
theorem O_performed (h : OB b0 n0 c k M g f) (hd : 1 ≤ d) (x : Int32) : zM l d D b0 mX11_performed [.ref c, .int x] g f (zEx (some (.int (pperfd M x))) g f) := by
  obtain ⟨g, R, f, C, t, y, n, ⟨rfl, rfl⟩, ⟨hW, hF, hw⟩, h, h26⟩ := h
  have e : bperfd C x = pperfd M x := h.2.2.2.1.1.perfd x
  have q := B_X11_performed (l := l) (d := d) (D := D) (f := f) (C := C) hW hF hw x hd
  rw [e] at q
  exact q
theorem O_frame (h : OB b0 n0 c k M g f) (hd : 3 ≤ d) (x z : Int32) : zM l d D b0 mX11_frame [.ref c, .int x, .int z] g f (zEx (some (.int (pframe M x z))) g f) := by
  obtain ⟨g, R, f, C, t, y, n, ⟨rfl, rfl⟩, ⟨hW, hF, hw⟩, h, h26⟩ := h
  obtain ⟨l1, l2, -⟩ := h.nums
  obtain ⟨e, a1, a4⟩ := h.2.2.2.1.1.frame h.1.1.1 x z
  have q := B_X11_frame (l := l) (d := d) (D := D) (f := f) (C := C) hW hF hw x z (by rw [l1]; exact iv_nI (by omega) (by decide)) a1 hd
  have e : bframe g R f C x z = pframe M x z := e
  rw [e] at q
  exact q
/-- the answer of handler -/
def phdl (M : zI) (x : Int32) : Int32 := if x < 0 ∨ 5 < x then -1 else if (phand M x).1 = -9 then -9 else (phand M x).2
theorem O_handler (h : OB b0 n0 c k M g f) (hd : 2 ≤ d) (x : Int32) : zM l d D b0 mX11_handler [.ref c, .int x] g f (zEx (some (.int (phdl M x))) g f) := by
  obtain ⟨g, R, f, C, t, y, n, ⟨rfl, rfl⟩, ⟨hW, hF, hw⟩, h, h26⟩ := h
  obtain ⟨l1, l2, -⟩ := h.nums
  obtain ⟨e, a1, a4⟩ := h.2.2.2.1.1.handler h.1.1.1 (d := n.1) rfl x
  have q := B_X11_handler (l := l) (d := d) (D := D) (f := f) (C := C) hW hF hw x n.1 l1 l2 a1 hd
  have e : bhandler g R f C x n.1 = phdl M x := e
  rw [e] at q
  exact q
/-- where no image was kept -/
theorem O_back1 (h : OB b0 n0 c k M g f) (hd : 3 ≤ d) : zM l d D b0 mX11_back [.ref c, .int 1] g f (zEx (some (.int (-2))) g f) := by
  obtain ⟨g, R, f, C, t, y, n, ⟨rfl, rfl⟩, ⟨hW, hF, hw⟩, h, h26⟩ := h
  have e : R 26 (tn 1) = none := h26
  refine (B_X11_back (l := l) (d := d) (D := D) (f := f) (C := C) hW hF hw 1 0 (by omega) (fun a z => by rw [e] at z; cases z) (fun a z => by rw [e] at z; cases z) hd).mono (fun r g' f' mc ms q => ?_)
  obtain ⟨q1, q2, q3, q4, q5, -⟩ := q
  rw [bback_n (by decide) e] at q1 q2 q3
  exact ⟨q1, q2, q3, by omega, by omega⟩
end OCALLS
