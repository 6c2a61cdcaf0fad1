/-! A run's step from a value: bindings, calls, clauses, operands, finalizers. -/
theorem XR.new {b0 : Nat} {X : zCt} {a b : Int32} {s : Option Nat} (hI : IN b0 X) (h : XR X a b s) (t n : Nat) : bresIn (znG (qg X) t n) s = bresIn (qg X) s := by
  rcases h.env with ⟨-, h2⟩ | ⟨e, h1, -, h2⟩
  · rw [h2]; rfl
  · rw [h2]
    exact congrFun (zu1_ne _ _ _ (Nat.ne_of_lt (hI.1 e h1).2.1)) 2
/-- a binding -/
theorem VH.c5 {b0 n0 : Nat} {g : zG} {f M : zI} {t : zTs} {sg rg mz fi : Nat → Nat} {el : Nat → Nat → Prop} {ci : Nat → Nat → Nat} {d nv nr nf np : Nat} {R : zRf} {C : zI} {st i x : Nat} {v : Int32}
    (h : VH b0 n0 (g, f, M, t, (sg, el, rg, ci, mz, fi), (d, nv, nr, nf, np)) R C st i x 5 v) : VR b0 n0 (g, f, M, t, (sg, el, rg, ci, mz, fi), (d, nv, nr, nf, np)) st i v (bgoat g R f C x (pA g x 1)) := by
  obtain ⟨m, k, n1, n1', n2, n3, n4, n5, n6, n7, n8⟩ := h.node (by decide)
  have hb := h.1.1.2.2.2.2.2.2.2.2
  have hI := h.1.1.IN
  have hi := h.2.1.1
  obtain rfl : k = 8 := n7.elim (fun q => (show ∀ k, k < 16 → 5 = frk k → k = 8 by decide) k (by omega) q) (fun q => absurd q.1 (by decide))
  have h0 : pof M (nI i) 0 = 5 := (pof_n (k := 0) (by omega) (by decide)).trans h.2.1.2.2.2.1
  obtain ⟨x1, x2⟩ := n8 (by decide)
  have n2 : pof M (nI i) 1 = nI m := n2
  refine ⟨pcV (by omega) h.2.1.2.2.2.1 (by decide) (fun e => absurd e (by decide)) (fun e => absurd e (by decide)) (fun _ => ⟨?_, h.1.1.vd.2.2.2.1⟩) (fun e => absurd e (by decide)) (fun e => absurd e (by decide)) (fun e => absurd e (by decide)) (fun e => absurd e (by decide)) (fun e => absurd e (by decide)) (fun e => absurd e (by decide)) (fun e => absurd e (by decide)), ?_⟩
  · show iv 65000 (pof M (nI i) 1)
    rw [n2]; exact iv_nI n1' (by decide)
  have hx : x < g.1 := h.2.1.2.2.1.2.1
  have he : t.2.1 m < g.1 := n6.1.2.1.2.1
  obtain ⟨u, u1, u2, -⟩ := n6.2.1.1 (Or.inr rfl)
  have u2 : M 1 (5 * m + 1) = nI u := u2
  have hfe : f (t.2.1 m) 1 = nI u := (n6.1.2.2.2 (Or.inr (Or.inr (Or.inl rfl)))).trans u2
  obtain ⟨q, q1, q2, q3, q4, q5, q6, q7⟩ := (n6.2.2.1 1 (by decide)).1 (by decide)
  have s2 : (znG g 9 0).2.2.2 x = g.2.2.2 x := zu1_ne _ _ _ (Nat.ne_of_lt hx)
  have s3 : znI g f (t.2.1 m) = f (t.2.1 m) := zu1_ne _ _ _ (Nat.ne_of_lt he)
  have s4 : bresIn (znG g 9 0) (g.2.2.2 x 2) = bresIn g (g.2.2.2 x 2) := x1.new hI 9 0
  rw [show qM (g, f, M, t, (sg, el, rg, ci, mz, fi), (d, nv, nr, nf, np)) = M from rfl, pcomes_5 h0, bgoat_5 h.2.1.2.2.2.2.1, pA_eq n3, n2, parg_n (by omega), u2]
  unfold bg5
  rw [s2, s3, s4, hfe, h.2.2.1.2.2, show g.2.2.2 (t.2.1 m) 3 = some (t.2.1 q) from q5]
  refine ⟨rfl, _, _, h.bindTo (m := q) u1 x1.env x1.res ⟨q2, (ppart_n (k := 2) (by omega) (by decide)).trans q3, q4⟩ (fun l hl => ?_) (fun hr => x2.2 (q7 hr))⟩
  rcases q6 l hl with hl | ⟨-, -, hl26, hl⟩
  · obtain ⟨e, e1, e2, e3⟩ := x2.1 l hl
    exact Or.inr ⟨e, e2, e1, e3⟩
  · exact Or.inl ((nI_eq (by omega) (by omega)).mp (hl.symm.trans u2))
/-- a call -/
theorem VH.c10 {b0 n0 : Nat} {g : zG} {f M : zI} {t : zTs} {sg rg mz fi : Nat → Nat} {el : Nat → Nat → Prop} {ci : Nat → Nat → Nat} {d nv nr nf np : Nat} {R : zRf} {C : zI} {st i x : Nat} {v : Int32}
    (h : VH b0 n0 (g, f, M, t, (sg, el, rg, ci, mz, fi), (d, nv, nr, nf, np)) R C st i x 10 v) : VR b0 n0 (g, f, M, t, (sg, el, rg, ci, mz, fi), (d, nv, nr, nf, np)) st i v (bgoat g R f C x (pA g x 1)) := by
  obtain ⟨m, k, n1, n1', n2, n3, n4, n5, n6, n7, n8⟩ := h.node (by decide)
  have hb := h.1.1.2.2.2.2.2.2.2.2
  have hi := h.2.1.1
  obtain rfl : k = 13 := n7.elim (fun q => (show ∀ k, k < 16 → 10 = frk k → k = 13 by decide) k (by omega) q) (fun q => absurd q.1 (by decide))
  have h0 : pof M (nI i) 0 = 10 := (pof_n (k := 0) (by omega) (by decide)).trans h.2.1.2.2.2.1
  have n2 : pof M (nI i) 1 = nI m := n2
  obtain ⟨p, p1, p2⟩ := n6.2.1.2.2 rfl
  have p2 : M 1 (5 * m + 1) = nI p := p2
  have hfe : f (t.2.1 m) 1 = nI p := (n6.1.2.2.2 (Or.inr (Or.inr (Or.inr (Or.inr (Or.inr rfl)))))).trans p2
  have hpa : parg M (pof M (nI i) 1) = nI p := by rw [n2, parg_n (by omega)]; exact p2
  refine ⟨pcV (by omega) h.2.1.2.2.2.1 (by decide) (fun e => absurd e (by decide)) (fun e => absurd e (by decide)) (fun e => absurd e (by decide)) (fun e => absurd e (by decide)) (fun e => absurd e (by decide)) (fun e => absurd e (by decide)) (fun _ => ⟨iv_nI (by omega) (by decide), ?_, ?_, h.1.1.vd.2.2.2.1⟩) (fun e => absurd e (by decide)) (fun e => absurd e (by decide)) (fun e => absurd e (by decide)), ?_⟩
  · show iv 65000 (pof M (nI i) 1)
    rw [n2]; exact iv_nI n1' (by decide)
  · show iv 4 (parg M (pof M (nI i) 1))
    rw [hpa]; exact iv_nI p1 (by decide)
  have e10 : bgoat g R f C x (pA g x 1) = bcall g R f C (nI p) := by
    rw [bgoat_10 h.2.1.2.2.2.2.1, pA_eq n3]
    exact congrArg (bcall g R f C) hfe
  rw [show qM (g, f, M, t, (sg, el, rg, ci, mz, fi), (d, nv, nr, nf, np)) = M from rfl, pcomes_10 h0, e10]
  unfold pcall bcall
  rw [hpa, tn_nI (by omega)]
  rcases h.1.2.1.2 p p1 with ⟨a1, a2⟩ | ⟨q, a, a1, a2, a3, a4, a5, a6, a7, a8, a9⟩
  · rw [if_pos a1, if_neg (fun e => e.2 a2)]
    exact ⟨rfl, _, _, h.same⟩
  · have a1 : q < t.1 := a1
    have hN : t.1 ≤ 65000 := h.1.1.1.1
    rw [if_neg (fun e => (iv_nI (N := 65000) (n := q) (by omega) (by decide)).nn (by decide) (a2.symm.trans e)), if_pos ⟨⟨nI_pos (by omega), nI_lt (b := 4) p1 (by decide)⟩, by rw [a4]; exact fun e => by cases e⟩, a4, show M 2 (1 + p) = nI q from a2, h.2.2.1.2.2]
    show _ ∧ ∃ y n, SR b0 n0 (dSc g none none, dScF g f 23 v, _, t, y, n) (bgoTo R (some (pA g a 0)) (some g.1)) C st
    rw [pA_eq a7]
    exact ⟨rfl, _, _, h.bindTo (m := q) (u := 23) (by decide) (Or.inl ⟨rfl, rfl⟩) (Or.inl ⟨rfl, rfl⟩) ⟨a1, rfl, a3⟩ (fun l hl => Or.inl (a8 l hl)) (fun hr => absurd hr a9)⟩
/-- a chain of clauses -/
theorem ch_look {M : zI} {w : Int32} : ∀ (qs : List Nat) (x : Int32) (k : Nat), chC (M 1) qs x → qs.length < k → (∀ q ∈ qs, q < 65000) →
    pclV M k x ∧ ((∃ q ∈ qs, M 1 (5 * q + 4) = w ∧ pclA M w k x = nI q) ∨ ((∀ q ∈ qs, ¬ M 1 (5 * q + 4) = w) ∧ pclA M w k x = -9)) := by
  intro qs
  induction qs with
  | nil =>
    intro x k h1 h2 _
    obtain ⟨k, rfl⟩ : ∃ k', k = k' + 1 := ⟨k - 1, by simp at h2; omega⟩
    have h1 : x = -9 := h1
    exact ⟨Or.inl h1, Or.inr ⟨fun q hq => (by cases hq), (if_pos h1).trans h1⟩⟩
  | cons q qs ih =>
    intro x k h1 h2 h3
    obtain ⟨k, rfl⟩ : ∃ k', k = k' + 1 := ⟨k - 1, by simp at h2; omega⟩
    obtain ⟨h1, h4⟩ := h1
    have hq : q < 65000 := h3 q (List.mem_cons_self ..)
    have ht : tn x = q := by rw [h1]; exact tn_nI (by omega)
    have hi : iv 65000 x := by rw [h1]; exact iv_nI hq (by decide)
    have h9 : ¬ x = -9 := hi.nn (by decide)
    obtain ⟨a1, a2⟩ := ih (M 1 (5 * q + 3)) k h4 (by simp at h2; omega) (fun p hp => h3 p (List.mem_cons_of_mem _ hp))
    refine ⟨Or.inr ⟨hi, by rw [ht]; exact a1⟩, ?_⟩
    show (∃ p ∈ q :: qs, M 1 (5 * p + 4) = w ∧ (if x = -9 then x else if M 1 (5 * tn x + 4) = w then x else pclA M w k (M 1 (5 * tn x + 3))) = nI p) ∨ ((∀ p ∈ q :: qs, ¬ M 1 (5 * p + 4) = w) ∧ (if x = -9 then x else if M 1 (5 * tn x + 4) = w then x else pclA M w k (M 1 (5 * tn x + 3))) = -9)
    rw [if_neg h9, ht]
    by_cases hw : M 1 (5 * q + 4) = w
    · rw [if_pos hw]
      exact Or.inl ⟨q, List.mem_cons_self .., hw, h1⟩
    · rw [if_neg hw]
      rcases a2 with ⟨p, p1, p2, p3⟩ | ⟨p1, p2⟩
      · exact Or.inl ⟨p, List.mem_cons_of_mem _ p1, p2, p3⟩
      · refine Or.inr ⟨fun p hp => ?_, p2⟩
        rcases List.mem_cons.mp hp with rfl | hp
        · exact hw
        · exact p1 p hp
/-- a handler's clause for w, in both -/
theorem HN.clause {b0 n0 : Nat} {g : zG} {f M : zI} {t : zTs} {n e w : Nat} (h : HN b0 n0 g f (M 1) t n e) (ht : t.1 ≤ 65000) (hn : n < t.1) (hw : w < 7) : pclOk M (nI n) ∧
    ((pclause M (nI n) (nI w) = -9 ∧ bclause g e (nI w) = none) ∨ ∃ q v b, n < q ∧ q < t.1 ∧ pclause M (nI n) (nI w) = nI q ∧ n < b ∧ b < t.1 ∧ M 1 (5 * q + 2) = nI b ∧ ¬ M 1 (5 * b) = nI 16 ∧ v < 26 ∧ M 1 (5 * q + 1) = nI v ∧
      bclause g e (nI w) = some (t.2.1 b) ∧ bclvar g f e (nI w) = nI v ∧ (∀ y, t.2.2.1 b y → t.2.2.1 n y ∨ y = v) ∧ (t.2.2.2 b → w < 6 ∨ t.2.2.2 n)) := by
  obtain ⟨⟨e5, e6, i5, i6, l5, l6⟩, qs, c1, c2, c3, c4⟩ := h
  have htn : tn (nI n) = n := tn_nI (by omega)
  obtain ⟨a1, a2⟩ := ch_look (w := nI w) qs _ 8 c1 (by omega) (fun q hq => by have := (c3 q hq).2.1; omega)
  have h7 : ¬ nI w < 0 ∧ nI w < 7 := ⟨nI_pos (by omega), nI_lt (b := 7) hw (by decide)⟩
  have hb : bclause g e (nI w) = g.2.2.2 (e + 1) w := by unfold bclause; rw [e5]; exact (if_pos h7).trans (by rw [tn_nI (by omega)])
  have hv : bclvar g f e (nI w) = f (e + 2) w := by unfold bclvar; rw [e6]; exact (if_pos h7).trans (by rw [tn_nI (by omega)])
  refine ⟨by unfold pclOk; rw [htn]; exact a1, ?_⟩
  unfold pclause
  rw [htn, hb, hv]
  rcases a2 with ⟨q, q1, q2, q3⟩ | ⟨q1, q2⟩
  · obtain ⟨r1, r2, r3, w', b, v, s1, s2, s3, s4, s5, s6, s7, s8, s9, s10, s11, s12⟩ := c3 q q1
    obtain rfl : w' = w := (nI_eq (by omega) (by omega)).mp (s2.symm.trans q2)
    exact Or.inr ⟨q, v, b, r1, r2, q3, by omega, s4, s5, s6, s7, s8, s9, s10, s11, s12⟩
  · exact Or.inl ⟨q2, c4 w hw q1⟩
/-- a handler is left -/
theorem VH.c12 {b0 n0 : Nat} {g : zG} {f M : zI} {t : zTs} {sg rg mz fi : Nat → Nat} {el : Nat → Nat → Prop} {ci : Nat → Nat → Nat} {d nv nr nf np : Nat} {R : zRf} {C : zI} {st i x : Nat} {v : Int32}
    (h : VH b0 n0 (g, f, M, t, (sg, el, rg, ci, mz, fi), (d, nv, nr, nf, np)) R C st i x 12 v) : VR b0 n0 (g, f, M, t, (sg, el, rg, ci, mz, fi), (d, nv, nr, nf, np)) st i v (bgoat g R f C x (pA g x 1)) := by
  obtain ⟨m, k, n1, n1', n2, n3, n4, n5, n6, n7, n8⟩ := h.node (by decide)
  have hb := h.1.1.2.2.2.2.2.2.2.2
  have hI := h.1.1.IN
  have hi := h.2.1.1
  have hN : t.1 ≤ 65000 := h.1.1.1.1
  have n1 : m < t.1 := n1
  obtain rfl : k = 15 := n7.elim (fun q => (show ∀ k, k < 16 → 12 = frk k → k = 15 by decide) k (by omega) q) (fun q => absurd q.1 (by decide))
  have h0 : pof M (nI i) 0 = 12 := (pof_n (k := 0) (by omega) (by decide)).trans h.2.1.2.2.2.1
  obtain ⟨x1, x2⟩ := n8 (by decide)
  have n2 : pof M (nI i) 1 = nI m := n2
  have hHN : HN b0 n0 g f (M 1) t m (t.2.1 m) := n6.2.2.2.2.2 rfl
  obtain ⟨c1, c2⟩ := hHN.clause (w := 6) hN n1 (by decide)
  refine ⟨pcV (by omega) h.2.1.2.2.2.1 (by decide) (fun e => absurd e (by decide)) (fun e => absurd e (by decide)) (fun e => absurd e (by decide)) (fun e => absurd e (by decide)) (fun e => absurd e (by decide)) (fun e => absurd e (by decide)) (fun e => absurd e (by decide)) (fun e => absurd e (by decide)) (fun _ => ⟨iv_nI (by omega) (by decide), ?_, ?_, ?_, h.1.1.vd.2.2.2.1⟩) (fun e => absurd e (by decide)), ?_⟩
  · show iv 65000 (pof M (nI i) 1)
    rw [n2]; exact iv_nI n1' (by decide)
  · show pclOk M (pof M (nI i) 1)
    rw [n2]; exact c1
  · show ¬ pclause M (pof M (nI i) 1) 6 = -9 → iv 65000 (pclause M (pof M (nI i) 1) 6)
    rw [n2]
    intro q
    rcases c2 with ⟨q1, -⟩ | ⟨q0, v0, b, q1, q2, q3, -⟩
    · exact absurd q1 q
    · rw [show pclause M (nI m) 6 = nI q0 from q3]; exact iv_nI (by omega) (by decide)
  have hx : x < g.1 := h.2.1.2.2.1.2.1
  have s4 : bresIn (znG g 9 0) (g.2.2.2 x 2) = bresIn g (g.2.2.2 x 2) := x1.new hI 9 0
  rw [show qM (g, f, M, t, (sg, el, rg, ci, mz, fi), (d, nv, nr, nf, np)) = M from rfl, pcomes_12 h0, bgoat_12 h.2.1.2.2.2.2.1, pA_eq n3]
  unfold pleave bleave
  rw [n2]
  rcases c2 with ⟨q1, q2⟩ | ⟨q0, v0, b, q1, q2, q3, r1, r2, r3, r4, r5, r6, r7, r8, r9, r10⟩
  · rw [if_pos (show pclause M (nI m) 6 = -9 from q1), if_pos (show bclause g (t.2.1 m) 6 = none from q2)]
    exact ⟨rfl, _, _, h.same⟩
  · have q3 : pclause M (nI m) 6 = nI q0 := q3
    have r7 : bclause g (t.2.1 m) 6 = some (t.2.1 b) := r7
    have r8 : bclvar g f (t.2.1 m) 6 = nI v0 := r8
    rw [q3, if_neg ((iv_nI (N := 65000) (n := q0) (by omega) (by decide)).nn (by decide)), r7, if_neg (fun e => by cases e), s4, r8, parg_n (by omega), show M 1 (5 * q0 + 1) = nI v0 from r6, h.2.2.1.2.2]
    refine ⟨rfl, _, _, h.bindTo (m := b) r5 x1.env x1.res ⟨r2, (ppart_n (k := 1) (by omega) (by decide)).trans r3, r4⟩ (fun l hl => ?_) (fun hr => x2.2 ((r10 hr).resolve_left (by decide)))⟩
    rcases r9 l hl with hl | hl
    · obtain ⟨e, e1, e2, e3⟩ := x2.1 l hl
      exact Or.inr ⟨e, e2, e1, e3⟩
    · exact Or.inl hl
