/-! The calls, in both objects. -/
section CALLS
variable {l : Launch} {d : Nat} {D : zD} {b0 n0 c o k : Nat} {g : zG} {f : zI}
theorem tk_write {C : zI} {x : Int32} {len : Nat} (h : C 0 1 = nI len) (hl : len ≤ 120) : Tk (tn (C 0 1)) (tn ((bwrite C x).2 0 1)) 0 := by
  unfold bwrite
  split
  · exact Tk.same rfl (by decide)
  · split
    · rename_i q
      refine Or.inl ⟨?_, rfl⟩
      show tn (zup (zup C 1 (tn (C 0 1)) x) 0 1 (C 0 1 + 1) 0 1) = tn (C 0 1) + 1
      rw [zup_at, h, nI_1, tn_nI (by omega), tn_nI (by omega)]
    · exact Tk.same rfl (by decide)
theorem pback_00 {M : zI} {x : Int32} : (pback M x).2 0 8 = M 0 8 := by
  unfold pback
  split
  · rfl
  · split
    · rfl
    · exact congrFun (pback_r (M := M) (x := x) (r := 0) (by decide) (by decide)) 8
theorem J_write (hJ : JS b0 n0 c o k g f) (hk : 120 * (k + 1) ≤ 64800) (hd : 8 ≤ d) (x : Int32) : zM l d D b0 mX11_write [.ref c, .int x] g f (JP l d D b0 n0 c o k f mX12_write [.int x]) := by
  obtain ⟨g, R, f, C, M, t, y, n, ⟨rfl, rfl⟩, ⟨hW, hF, hw⟩, ⟨hRW, hco, hon, hfo⟩, h⟩ := hJ
  have hng : n0 ≤ g.1 := h.1.1.2.2
  obtain ⟨-, -, -, -, -, len, l1, l2, l3⟩ := h.nums
  obtain ⟨a1, a2, a3⟩ := h.write (by omega) x
  exact JP.mk hRW hco hon hfo hng (by omega) (B_X11_write hW hF hw x a1) (tk_write l1 l3) (by omega) (fun g' f' hr => R_X12_write hr x (by rw [l2]; exact iv_nI (by omega) (by decide)) (by omega)) a2 hF (fun _ _ => ⟨rfl, rfl⟩) a3
theorem J_wipe (hJ : JS b0 n0 c o k g f) (hk : 120 * (k + 1) ≤ 64800) (hd : 8 ≤ d) : zM l d D b0 mX11_wipe [.ref c] g f (JP l d D b0 n0 c o k f mX12_wipe []) := by
  obtain ⟨g, R, f, C, M, t, y, n, ⟨rfl, rfl⟩, ⟨hW, hF, hw⟩, ⟨hRW, hco, hon, hfo⟩, h⟩ := hJ
  have hng : n0 ≤ g.1 := h.1.1.2.2
  obtain ⟨a2, a3⟩ := h.wipe (by omega)
  exact JP.mk hRW hco hon hfo hng (by omega) (B_X11_wipe hW hF hw) (Or.inr ⟨Or.inr (by rw [zup_at]; rfl), by decide, fun _ => by decide⟩) (by omega) (fun g' f' hr => R_X12_wipe hr) a2 hF (fun _ _ => ⟨rfl, rfl⟩) a3
theorem J_fault (hJ : JS b0 n0 c o k g f) (hk : 120 * (k + 1) ≤ 64800) (hd : 8 ≤ d) (x : Int32) : zM l d D b0 mX11_fault [.ref c, .int x] g f (JP l d D b0 n0 c o k f mX12_fault [.int x]) := by
  obtain ⟨g, R, f, C, M, t, y, n, ⟨rfl, rfl⟩, ⟨hW, hF, hw⟩, ⟨hRW, hco, hon, hfo⟩, h⟩ := hJ
  have hng : n0 ≤ g.1 := h.1.1.2.2
  obtain ⟨-, -, -, -, -, len, l1, l2, l3⟩ := h.nums
  obtain ⟨a1, a2, a3⟩ := h.fault (by omega) l1 l3 x
  obtain ⟨e1, e2⟩ := h.lo_fault (by omega) hF l1 l3 x
  exact JP.mk hRW hco hon hfo hng (by omega) (B_X11_fault hW hF hw x len l1 l3 h.2.1.2.1 (EOs.EO h.1.2.1) (by omega)) (Tk.text (h.row0_fault (by omega) l1 l3 x) l1 l3 (by omega)) (by omega) (fun g' f' hr => R_X12_fault hr x a1 (by omega)) a2 e1 (fun j hj => e2 _ (by omega)) a3
theorem J_load (hJ : JS b0 n0 c o k g f) (hk : 120 * (k + 1) ≤ 64800) (hd : 8 ≤ d) : zM l d D b0 mX11_load [.ref c] g f (JP l d D b0 n0 c o k f mX12_load []) := by
  obtain ⟨g, R, f, C, M, t, y, n, ⟨rfl, rfl⟩, ⟨hW, hF, hw⟩, ⟨hRW, hco, hon, hfo⟩, h⟩ := hJ
  have hng : n0 ≤ g.1 := h.1.1.2.2
  obtain ⟨-, -, -, -, -, len, l1, l2, l3⟩ := h.nums
  obtain ⟨a1, m, t', n', a4, a2, a6, a3⟩ := h.load hk l1 l3
  obtain ⟨e1, e2⟩ := h.lo_load (by omega) hF l1 l3 m 1000
  exact JP.mk hRW hco hon hfo hng (by omega) (B_X11_load hW hF hw len m 1000 l1 l3 h.2.1.2.1 (EOs.EO h.1.2.1) a4 (by omega)) (Tk.text a6 l1 l3 (by omega)) (by omega) (fun g' f' hr => R_X12_load hr a1 (by omega)) a2 e1 (fun j hj => e2 _ (by omega)) a3
theorem J_define (hJ : JS b0 n0 c o k g f) (hk : 120 * (k + 1) ≤ 64800) (hd : 8 ≤ d) (x : Int32) : zM l d D b0 mX11_define [.ref c, .int x] g f (JP l d D b0 n0 c o k f mX12_define [.int x]) := by
  obtain ⟨g, R, f, C, M, t, y, n, ⟨rfl, rfl⟩, ⟨hW, hF, hw⟩, ⟨hRW, hco, hon, hfo⟩, h⟩ := hJ
  have hng : n0 ≤ g.1 := h.1.1.2.2
  obtain ⟨-, -, -, -, -, len, l1, l2, l3⟩ := h.nums
  obtain ⟨a1, m, t', a4, a2, a3⟩ := h.define hk l1 l3 x
  obtain ⟨e1, e2⟩ := h.lo_define (by omega) hF l1 l3 x m
  exact JP.mk hRW hco hon hfo hng (by omega) (B_X11_define hW hF hw x len m l1 l3 h.2.1.2.1 (EOs.EO h.1.2.1) a4 (by omega)) (Tk.text (h.row0_define (by omega) l1 l3 x m) l1 l3 (by omega)) (by omega) (fun g' f' hr => R_X12_define hr x a1 (by omega)) a2 e1 (fun j hj => e2 _ (by omega)) a3
theorem J_undefine (hJ : JS b0 n0 c o k g f) (hk : 120 * (k + 1) ≤ 64800) (hd : 8 ≤ d) (x : Int32) : zM l d D b0 mX11_undefine [.ref c, .int x] g f (JP l d D b0 n0 c o k f mX12_undefine [.int x]) := by
  obtain ⟨g, R, f, C, M, t, y, n, ⟨rfl, rfl⟩, ⟨hW, hF, hw⟩, ⟨hRW, hco, hon, hfo⟩, h⟩ := hJ
  have hng : n0 ≤ g.1 := h.1.1.2.2
  obtain ⟨a2, a3⟩ := h.undef (by omega) x
  exact JP.mk hRW hco hon hfo hng (by omega) (B_X11_undefine hW hF hw x (by omega)) (Tk.same rfl (by decide)) (by omega) (fun g' f' hr => R_X12_undefine hr x (by omega)) a2 (hF.undef x) (fun _ _ => ⟨rfl, rfl⟩) a3
theorem J_restart (hJ : JS b0 n0 c o k g f) (hk : 120 * (k + 1) ≤ 64800) (hd : 8 ≤ d) : zM l d D b0 mX11_restart [.ref c] g f (JP l d D b0 n0 c o k f mX12_restart []) := by
  obtain ⟨g, R, f, C, M, t, y, n, ⟨rfl, rfl⟩, ⟨hW, hF, hw⟩, ⟨hRW, hco, hon, hfo⟩, h⟩ := hJ
  have hng : n0 ≤ g.1 := h.1.1.2.2
  obtain ⟨a2, y', n', a3⟩ := h.restart (by omega)
  exact JP.mk hRW hco hon hfo hng (by omega) (B_X11_restart hW hF hw (by omega)) (Tk.same brest_00 (by decide)) (by omega) (fun g' f' hr => R_X12_restart hr (by omega)) a2 hF.rest (fun _ _ => ⟨rfl, rfl⟩) a3
theorem J_listing (hJ : JS b0 n0 c o k g f) (hk : 120 * (k + 1) ≤ 64800) (hd : 8 ≤ d) (x : Int32) : zM l d D b0 mX11_listing [.ref c, .int x] g f (JP l d D b0 n0 c o k f mX12_listing [.int x]) := by
  obtain ⟨g, R, f, C, M, t, y, n, ⟨rfl, rfl⟩, ⟨hW, hF, hw⟩, ⟨hRW, hco, hon, hfo⟩, h⟩ := hJ
  have hng : n0 ≤ g.1 := h.1.1.2.2
  obtain ⟨a1, a4, a2, a3⟩ := h.listing (by omega) x
  exact JP.mk hRW hco hon hfo hng (by omega) (zEx.cy hW hw (B_X11_listing hW hF hw x a1)) (Tk.same rfl (by decide)) (by omega) (fun g' f' hr => R_X12_listing hr x a4 (by omega)) a2 hF (fun _ _ => ⟨rfl, rfl⟩) a3
theorem J_may (hJ : JS b0 n0 c o k g f) (hk : 120 * (k + 1) ≤ 64800) (hd : 8 ≤ d) (p a v : Int32) : zM l d D b0 mX11_may [.ref c, .int p, .int a, .int v] g f (JP l d D b0 n0 c o k f mX12_may [.int p, .int a, .int v]) := by
  obtain ⟨g, R, f, C, M, t, y, n, ⟨rfl, rfl⟩, ⟨hW, hF, hw⟩, ⟨hRW, hco, hon, hfo⟩, h⟩ := hJ
  have hng : n0 ≤ g.1 := h.1.1.2.2
  obtain ⟨-, b1, b2⟩ := h.mayV (by omega)
  obtain ⟨a1, a4, a5, a2, a6, a3⟩ := h.may (by omega) p a v
  refine JP.mk hRW hco hon hfo hng (by omega) (B_X11_may hW hF hw p a v 39000 (by omega) b1 b2 a5 (by omega)) (Tk.same rfl (by decide)) (by omega) (fun g' f' hr => ?_) a2 hF (fun j hj => ⟨rfl, (a6 (o + j)).1 ?_⟩) a3
  · by_cases q : p < -1 ∨ 3 < p
    · exact R_X12_may_b hr p a v q (by omega)
    · exact R_X12_may hr p a v a1 (a4 q) (by omega)
  · by_cases q : j = 0
    · subst q
      have := hRW.1.2.2
      have e : g.2.1 o = 12 := this
      rw [Nat.add_zero, e]; decide
    · obtain ⟨q1, q2, q3⟩ := (show ∀ j, j < 20 → j ≠ 0 → ∃ q ∈ rT, q.2.1 = j by decide +kernel) j hj q
      have := (hRW.2 q1 q2).2.1.2.2
      have e : g.2.1 (o + q1.2.1) = 13 := this
      rw [← q3, e]; decide
theorem J_run (hJ : JS b0 n0 c o k g f) (hk : 120 * (k + 1) ≤ 64800) (hd : 8 ≤ d) (x : Int32) : zM l d D b0 mX11_run [.ref c, .int x] g f (JP l d D b0 n0 c o k f mX12_run [.int x]) := by
  obtain ⟨g, R, f, C, M, t, y, n, ⟨rfl, rfl⟩, ⟨hW, hF, hw⟩, ⟨hRW, hco, hon, hfo⟩, h⟩ := hJ
  have hng : n0 ≤ g.1 := h.1.1.2.2
  obtain ⟨-, -, -, -, a5, -⟩ := RQ.run h.2.2.2.1.1 h.2.2.2.1.2.2 h.1.1.2 (by omega) h.1.1.1 x
  obtain ⟨a1, a4, a6, a2, y', n', a3⟩ := h.run (by omega) x
  have hlow : ∀ j, j < 20 → (brunM g R f C x).1.1.2.2.2 (o + j) = g.2.2.2 (o + j) ∧ (brunM g R f C x).1.2.2.1 (o + j) = f (o + j) := fun j hj => a5.low (a := o + j) (by show o + j < g.1; omega)
  have hCF : CF c (brunM g R f C x).1.2.1 := CF.kf (S := (g, R, f, C)) hF a5
  by_cases q : x < 1 ∨ 200 < x
  · exact JP.mk hRW hco hon hfo hng (by omega) (B_X11_run_b hW hw x q) (Tk.same (congrFun (a5.2.2.1 0 (by omega)) 1) (by decide)) (by omega) (fun g' f' hr => R_X12_run hr x a4 (by omega)) a2 hCF hlow a3
  · exact JP.mk hRW hco hon hfo hng (by omega) (B_X11_run hW hF hw x a1 (by omega)) (Tk.same (congrFun (a5.2.2.1 0 (by omega)) 1) (by have := (a6 q).2; omega)) (a6 q).1 (fun g' f' hr => R_X12_run hr x a4 (by omega)) a2 hCF hlow a3
theorem J_answer (hJ : JS b0 n0 c o k g f) (hk : 120 * (k + 1) ≤ 64800) (hd : 8 ≤ d) (x : Int32) : zM l d D b0 mX11_answer [.ref c, .int x] g f (JP l d D b0 n0 c o k f mX12_answer [.int x]) := by
  obtain ⟨g, R, f, C, M, t, y, n, ⟨rfl, rfl⟩, ⟨hW, hF, hw⟩, ⟨hRW, hco, hon, hfo⟩, h⟩ := hJ
  have hng : n0 ≤ g.1 := h.1.1.2.2
  obtain ⟨-, -, l7, -⟩ := h.nums
  obtain ⟨-, a5, -⟩ := RQ.answer h.2.2.2.1.1 h.2.2.2.1.2.2 x
  obtain ⟨a2, a3⟩ := h.answer (by omega) x
  exact JP.mk hRW hco hon hfo hng (by omega) (B_X11_answer hW hF hw x (by omega)) (Tk.same (congrFun (a5.2.2.1 0 (by omega)) 1) (by decide)) (by omega) (fun g' f' hr => R_X12_answer hr x l7 (by omega)) a2 (CF.kf (S := (g, R, f, C)) hF a5) (fun _ _ => ⟨rfl, rfl⟩) a3
theorem J_drop (hJ : JS b0 n0 c o k g f) (hk : 120 * (k + 1) ≤ 64800) (hd : 8 ≤ d) (x : Int32) : zM l d D b0 mX11_drop [.ref c, .int x] g f (JP l d D b0 n0 c o k f mX12_drop [.int x]) := by
  obtain ⟨g, R, f, C, M, t, y, n, ⟨rfl, rfl⟩, ⟨hW, hF, hw⟩, ⟨hRW, hco, hon, hfo⟩, h⟩ := hJ
  have hng : n0 ≤ g.1 := h.1.1.2.2
  obtain ⟨l1, l2, l7, l11, l21, -⟩ := h.nums
  obtain ⟨-, -, a5, -⟩ := RQ.drop h.2.2.2.1.1 h.2.2.2.1.2.2 h.1.1.2 x
  obtain ⟨a2, -, y', n', a3⟩ := h.drop (by omega) x
  exact JP.mk hRW hco hon hfo hng (by omega) (B_X11_drop hW hF hw x n.1 l1 l2 (by omega)) (Tk.same (congrFun (a5.2.2.1 0 (by omega)) 1) (by decide)) (by omega) (fun g' f' hr => R_X12_drop hr x l7 l11 l21 (by omega)) a2 (CF.kf (S := (g, R, f, C)) hF a5) (fun j hj => a5.low (a := o + j) (by show o + j < g.1; omega)) a3
theorem J_told (hJ : JS b0 n0 c o k g f) (hk : 120 * (k + 1) ≤ 64800) (hd : 8 ≤ d) (x : Int32) : zM l d D b0 mX11_told [.ref c, .int x] g f (JP l d D b0 n0 c o k f mX12_told [.int x]) := by
  obtain ⟨g, R, f, C, M, t, y, n, ⟨rfl, rfl⟩, ⟨hW, hF, hw⟩, ⟨hRW, hco, hon, hfo⟩, h⟩ := hJ
  have hng : n0 ≤ g.1 := h.1.1.2.2
  obtain ⟨-, -, l7, -, -, len, l1, l2, l3⟩ := h.nums
  exact JP.mk hRW hco hon hfo hng (by omega) (zEx.cy hW hw (B_X11_told hW hF hw x (by omega))) (Tk.same rfl (by decide)) (by omega) (fun g' f' hr => R_X12_told hr x l7 (by omega)) (h.2.2.2.1.1.told (l1.trans l2.symm) x) hF (fun _ _ => ⟨rfl, rfl⟩) (h.same (by omega))
theorem J_value (hJ : JS b0 n0 c o k g f) (hk : 120 * (k + 1) ≤ 64800) (hd : 8 ≤ d) : zM l d D b0 mX11_value [.ref c] g f (JP l d D b0 n0 c o k f mX12_value []) := by
  obtain ⟨g, R, f, C, M, t, y, n, ⟨rfl, rfl⟩, ⟨hW, hF, hw⟩, ⟨hRW, hco, hon, hfo⟩, h⟩ := hJ
  have hng : n0 ≤ g.1 := h.1.1.2.2
  exact JP.mk hRW hco hon hfo hng (by omega) (zEx.cy hW hw (B_X11_value hW hF hw)) (Tk.same rfl (by decide)) (by omega) (fun g' f' hr => R_X12_value hr) h.2.2.2.1.1.value hF (fun _ _ => ⟨rfl, rfl⟩) (h.same (by omega))
theorem J_focus (hJ : JS b0 n0 c o k g f) (hk : 120 * (k + 1) ≤ 64800) (hd : 8 ≤ d) : zM l d D b0 mX11_focus [.ref c] g f (JP l d D b0 n0 c o k f mX12_focus []) := by
  obtain ⟨g, R, f, C, M, t, y, n, ⟨rfl, rfl⟩, ⟨hW, hF, hw⟩, ⟨hRW, hco, hon, hfo⟩, h⟩ := hJ
  have hng : n0 ≤ g.1 := h.1.1.2.2
  exact JP.mk hRW hco hon hfo hng (by omega) (zEx.cy hW hw (B_X11_focus hW hF hw)) (Tk.same rfl (by decide)) (by omega) (fun g' f' hr => R_X12_focus hr) h.2.2.2.1.1.focus hF (fun _ _ => ⟨rfl, rfl⟩) (h.same (by omega))
theorem J_trace (hJ : JS b0 n0 c o k g f) (hk : 120 * (k + 1) ≤ 64800) (hd : 8 ≤ d) (x : Int32) : zM l d D b0 mX11_trace [.ref c, .int x] g f (JP l d D b0 n0 c o k f mX12_trace [.int x]) := by
  obtain ⟨g, R, f, C, M, t, y, n, ⟨rfl, rfl⟩, ⟨hW, hF, hw⟩, ⟨hRW, hco, hon, hfo⟩, h⟩ := hJ
  have hng : n0 ≤ g.1 := h.1.1.2.2
  obtain ⟨a2, a1, a4⟩ := h.2.2.2.1.1.trace x
  exact JP.mk hRW hco hon hfo hng (by omega) (zEx.cy hW hw (B_X11_trace hW hF hw x a1)) (Tk.same rfl (by decide)) (by omega) (fun g' f' hr => R_X12_trace hr x a4) a2 hF (fun _ _ => ⟨rfl, rfl⟩) (h.same (by omega))
theorem J_performed (hJ : JS b0 n0 c o k g f) (hk : 120 * (k + 1) ≤ 64800) (hd : 8 ≤ d) (x : Int32) : zM l d D b0 mX11_performed [.ref c, .int x] g f (JP l d D b0 n0 c o k f mX12_performed [.int x]) := by
  obtain ⟨g, R, f, C, M, t, y, n, ⟨rfl, rfl⟩, ⟨hW, hF, hw⟩, ⟨hRW, hco, hon, hfo⟩, h⟩ := hJ
  have hng : n0 ≤ g.1 := h.1.1.2.2
  exact JP.mk hRW hco hon hfo hng (by omega) (zEx.cy hW hw (B_X11_performed hW hF hw x (by omega))) (Tk.same rfl (by decide)) (by omega) (fun g' f' hr => R_X12_performed hr x (by omega)) (h.2.2.2.1.1.perfd x) hF (fun _ _ => ⟨rfl, rfl⟩) (h.same (by omega))
theorem J_frame (hJ : JS b0 n0 c o k g f) (hk : 120 * (k + 1) ≤ 64800) (hd : 8 ≤ d) (x z : Int32) : zM l d D b0 mX11_frame [.ref c, .int x, .int z] g f (JP l d D b0 n0 c o k f mX12_frame [.int x, .int z]) := by
  obtain ⟨g, R, f, C, M, t, y, n, ⟨rfl, rfl⟩, ⟨hW, hF, hw⟩, ⟨hRW, hco, hon, hfo⟩, h⟩ := hJ
  have hng : n0 ≤ g.1 := h.1.1.2.2
  obtain ⟨l1, l2, l7, -⟩ := h.nums
  obtain ⟨a2, a1, a4⟩ := h.2.2.2.1.1.frame h.1.1.1 x z
  exact JP.mk hRW hco hon hfo hng (by omega) (zEx.cy hW hw (B_X11_frame hW hF hw x z (by rw [l1]; exact iv_nI (by omega) (by decide)) a1 (by omega))) (Tk.same rfl (by decide)) (by omega) (fun g' f' hr => R_X12_frame hr x z l7 a4 (by omega)) a2 hF (fun _ _ => ⟨rfl, rfl⟩) (h.same (by omega))
theorem J_handler (hJ : JS b0 n0 c o k g f) (hk : 120 * (k + 1) ≤ 64800) (hd : 8 ≤ d) (x : Int32) : zM l d D b0 mX11_handler [.ref c, .int x] g f (JP l d D b0 n0 c o k f mX12_handler [.int x]) := by
  obtain ⟨g, R, f, C, M, t, y, n, ⟨rfl, rfl⟩, ⟨hW, hF, hw⟩, ⟨hRW, hco, hon, hfo⟩, h⟩ := hJ
  have hng : n0 ≤ g.1 := h.1.1.2.2
  obtain ⟨l1, l2, -⟩ := h.nums
  obtain ⟨a2, a1, a4⟩ := h.2.2.2.1.1.handler h.1.1.1 (d := n.1) rfl x
  refine JP.mk hRW hco hon hfo hng (by omega) (zEx.cy hW hw (B_X11_handler hW hF hw x n.1 l1 l2 a1 (by omega))) (Tk.same rfl (by decide)) (by omega) (fun g' f' hr => R_X12_handler hr x a4 (by omega)) a2 hF (fun _ _ => ⟨rfl, rfl⟩) ?_ (t' := t) (y' := y) (n' := n)
  split
  · exact h.same (by omega)
  · exact h.m28 (by omega) _
theorem J_keep (hJ : JS b0 n0 c o k g f) (hk : 120 * (k + 1) ≤ 64800) (hd : 8 ≤ d) (x : Int32) : zM l d D b0 mX11_keep [.ref c, .int x] g f (JP l d D b0 n0 c o k f mX12_keep [.int x]) := by
  obtain ⟨g, R, f, C, M, t, y, n, ⟨rfl, rfl⟩, ⟨hW, hF, hw⟩, ⟨hRW, hco, hon, hfo⟩, h⟩ := hJ
  have hng : n0 ≤ g.1 := h.1.1.2.2
  obtain ⟨a1, ⟨b1, b2, b3, b4, b5, b6⟩, a2, a3⟩ := h.keep hW hF (by omega) x
  obtain ⟨e1, e2⟩ := h.lo_keep hW hF x n.1
  refine JP.mk hRW hco hon hfo hng (by omega) (c1 := 13) (c2 := 5199) ?_ (Tk.same (congrFun (congrFun bkeep_C 0) 1) (by decide)) (by omega) (fun g' f' hr => R_X12_keep hr x n.2.2.2.2 b5 (by omega) (by omega)) a2 e1 (fun j hj => e2 _ (by omega) (by omega)) a3
  by_cases q : x < 0 ∨ 1 < x
  · exact B_X11_keep_b hW hw x n.1 (img_no q) (by omega)
  · exact B_X11_keep hW hF hw x n.1 b2 b1 b3 b4 (a1 q) (by omega)
theorem J_back (hJ : JS b0 n0 c o k g f) (hk : 120 * (k + 1) ≤ 64800) (hd : 8 ≤ d) (x : Int32) : zM l d D b0 mX11_back [.ref c, .int x] g f (JP l d D b0 n0 c o k f mX12_back [.int x]) := by
  obtain ⟨g, R, f, C, M, t, y, n, ⟨rfl, rfl⟩, ⟨hW, hF, hw⟩, ⟨hRW, hco, hon, hfo⟩, h⟩ := hJ
  have hng : n0 ≤ g.1 := h.1.1.2.2
  have i3 : M 0 4 = FB R := h.2.2.2.2.1.2.1
  rcases h.back hW hF (by omega) x with ⟨a1, a2, a3⟩ | ⟨i, a, y', n', hi, rfl, z1, ra, ha, ⟨b1, b2, b3, b4, b5, b6⟩, a2, a3⟩
  · have hB : zM l d D b0 mX11_back [.ref (c + 0), .int x] (gv c g R) (cv c f C) (zCy b0 zNo c g (some (.int (pback M x).1)) g R f C 0 0) := by
      have hb : zM l d D b0 mX11_back [.ref (c + 0), .int x] (gv c g R) (cv c f C) (zCy b0 zNo c g (some (.int (bback c g R f C x 0).2)) (bback c g R f C x 0).1.1 (bback c g R f C x 0).1.2.1 (bback c g R f C x 0).1.2.2.1 (bback c g R f C x 0).1.2.2.2 0 0) := by
        by_cases q : x < 0 ∨ 1 < x
        · exact B_X11_back_b hW hw x 0 (img_no q) (by omega)
        · exact B_X11_back hW hF hw x 0 (by omega) (fun a z => absurd z (a3 a q)) (fun a z => absurd z (a3 a q)) (by omega)
      rw [a1] at hb
      exact hb
    refine JP.mk hRW hco hon hfo hng (by omega) hB (Tk.same rfl (by decide)) (by omega) (fun g' f' hr => ?_) rfl hF (fun _ _ => ⟨rfl, rfl⟩) (by rw [a2]; exact h.same (by omega)) (N := (pback M x).2) (t' := t) (y' := y) (n' := n)
    by_cases q : x < 0 ∨ 1 < x
    · exact R_X12_back_b hr x q (by omega)
    · obtain ⟨i, hi, rfl⟩ := img_of q
      refine R_X12_back hr (nI i) (fun z z1 z2 => ?_) (by omega)
      rw [i3] at z1
      have e : R 26 i = none := by
        have := a3
        cases hr : R 26 i with
        | none => rfl
        | some a => exact absurd (by rw [tn_nI (by omega)]; exact hr) (a3 a q)
      exact absurd (z1.symm.trans ((FB_bit hi).1.mpr e)) z2
  · have htn : tn (nI i) = i := tn_nI (by omega)
    have hR1 : ∀ a', R 26 (tn (nI i)) = some a' → a' = a := fun a' z => by
      rw [htn, z1] at z
      exact (Option.some.inj z).symm
    obtain ⟨e1, e2⟩ := lo_back (f := f) (C := C) hW hF (nI i) n'.1 (fun a' _ z => by rw [hR1 a' z]; exact ha)
    exact JP.mk hRW hco hon hfo hng (by omega) (B_X11_back hW hF hw (nI i) n'.1 b2 (fun a' z => by rw [hR1 a' z]; exact ⟨ra, ha⟩) (fun a' z => by rw [hR1 a' z]; exact ⟨b1, b3, b4⟩) (by omega)) (Tk.same (h.row0_of a3 (by rw [pback_00])) (by decide)) (by omega) (fun g' f' hr => R_X12_back hr (nI i) (fun _ _ _ => ⟨_, b5, by omega⟩) (by omega)) a2 e1 (fun j hj => e2 _ (by omega)) a3
end CALLS
