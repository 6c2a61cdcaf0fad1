/-! A text is read, in both: a handler's end. -/
section SHUT
variable {b0 n0 fs : Nat} {S0 : bSt} {M0 : zI} {len : Nat} {tx : Nat → Nat} {g : zG} {f : zI} {R : zRf} {t t0 : zTs} {m k : Nat} {how : Int32}
theorem PS.shut {C M : zI} {e : Ent} {L : List Ent} (h : PS b0 n0 fs S0 M0 len tx g f R C M t (e :: L) m k none) (he : e.2.1 = 15 ∧ e.2.2.1 = 1 ∧ e.2.2.2.1 = 0) (hbt : bot (e :: L) t.1 = fs) : ATT b0 n0 fs S0 M0 len tx g f R (zup C 2 9 (nI L.length)) (zup M 0 13 (nI (opn L))) t L m k e.1 := by
  obtain ⟨⟨h1, ⟨h2, hnc⟩, h3⟩, ⟨c0, ⟨c1, c2, c3, c4, c5⟩, ⟨c6, c7, c8, c9, c10, c11⟩, c12, c13⟩, hN, hFr, hK, hMB⟩ := h
  have hl := c0.1
  have hb : t.1 ≤ 65536 := by omega
  obtain ⟨k15, kp, cz⟩ := he
  obtain ⟨⟨b1, b2, b3, b4, b5⟩, ⟨p1, p2, p3, p4⟩, ⟨d1, d2, d3⟩, ⟨f1, f2, f3⟩, ho, hn, hh, hcl⟩ := h1
  obtain ⟨⟨r1, r2, r3, r4⟩, ⟨r5, r6⟩, ⟨r7, r8⟩, r9, r10⟩ := h2
  have b2 : e.1 < t.1 := b2
  have hltL := STK.lt L e.1 _ h3
  have ho1 : opn (e :: L) = opn L + 1 := by show opn L + (if e.2.2.2.1 = 0 then 1 else 2) = _; rw [if_pos cz]
  obtain ⟨M2, eM2⟩ : ∃ M2, M2 = zup M 0 13 (nI (opn L)) := ⟨_, rfl⟩
  have m1 : M2 1 = M 1 := by rw [eM2]; exact zup_r (by decide)
  have mr : ∀ r, r ≠ 0 → M2 r = M r := fun r hr => by rw [eM2]; exact zup_r hr
  have m0 : ∀ j, j ≠ 13 → M2 0 j = M 0 j := fun j hj => by rw [eM2, zup_ne _ _ _ _ (Or.inr hj)]
  have hw := EN.made (b0 := b0) (n0 := n0) (fs := fs) (g := g) (f := f) (t := t) (T := M2 1) (n := e.1) (κ := e.2.1) (w := e.2.2.2.2) ⟨b4, b5⟩ (by rw [m1]; exact ⟨p1, p2, p3, p4⟩) (by rw [m1]; exact ⟨d1, d2, d3⟩) (fun i a b => by
      rw [m1]
      refine f1 i ?_ b
      rw [k15] at a
      have : ari 15 = 1 := rfl
      omega) (fun i a b => by
      rw [k15] at a
      have a1 : ari 15 = 1 := rfl
      exact (f3 i (by omega) b).trans (if_neg (fun z => z.2 ⟨k15, kp⟩))) (fun z => by omega) hn (fun z => by
      rw [m1]
      have := hh z
      rw [cz] at this
      exact this)
  rw [← eM2]
  refine ⟨⟨?_, ?_, ?_, hFr.fr (fun n => by rw [m1]), hK.z (by omega), ?_⟩, ⟨b1, b2, ?_⟩, hltL, hbt, fun y hy => ?_, fun hy => r8.mpr hy⟩
  · refine STK.fr (P := fun _ => True) L e.1 t.1 _ h3 (by rw [m1]; exact AG.rf (by omega)) (fun _ _ => trivial) (by omega) ⟨fun j hj => ?_, fun j hj => ?_⟩
    · rw [zup_r (show (5 : Nat) ≠ 2 by decide), zup_r (show (6 : Nat) ≠ 2 by decide), zup_r (show (7 : Nat) ≠ 2 by decide)]
      exact ⟨rfl, rfl, rfl, rfl, rfl⟩
    · rw [mr 7 (by decide), mr 8 (by decide), mr 9 (by decide), mr 10 (by decide)]
      exact ⟨rfl, rfl, rfl, rfl⟩
  · refine ⟨c0.at ?_ (m0 8 (by decide)) (mr 6 (by decide)), ⟨?_, ?_, ?_, ?_, ?_⟩, ⟨c6, c7, c8, c9, by omega, c11⟩, zup_at _ _ _ _, by rw [eM2, zup_at]⟩
    · rw [zup_r (by decide)]
    · rw [zup_ne _ _ _ _ (by omega)]; exact c1
    · rw [m0 _ (by decide)]; exact c2
    · rw [m0 _ (by decide)]; exact c3
    · rw [m0 _ (by decide)]; exact c4
    · rw [m0 _ (by decide)]; exact c5
  · refine hN.fr (z := e.1) hb b2 (fun z => by rw [b3] at z; exact absurd ((nI_eq (b := 16) (by omega) (by decide)).mp z) (by omega)) (fun j hj => by rw [m1]) (fun n hn' => ?_) (fun _ => ⟨e, List.mem_cons_self .., rfl⟩)
    obtain ⟨e', he', rfl⟩ := hn'
    rcases List.mem_cons.mp he' with rfl | he'
    · exact Or.inr ⟨e'.2.1, b5, by rw [m1]; exact b3, hw.1, hw.2⟩
    · exact Or.inl ⟨e', he', rfl⟩
  · rw [eM2]
    exact hMB.z (by omega)
  · rw [m1, b3]
    exact fun z => absurd ((nI_eq (b := 16) (by omega) (by decide)).mp z) (by omega)
  · show ml (zup C 2 9 (nI L.length) 7 L.length) y
    rw [zup_r (by decide)]; exact (r7 y).mpr hy
/-- a fault where a clause is due -/
theorem CP.fail {N : zI} {q : bSt × Int32} {kk j : Nat} (h15 : N 0 15 = -9) (h14 : N 0 14 = nI kk) (hk : kk ≤ 120) (hM : MB fs M0 N) (hp : pat N) (hq : q.2 = nI kk) (hK : KB S0 q.1) :
    pparV how (j + 1) 1 (pfails N) ∧ RES b0 n0 fs S0 M0 len t0 (mk how) q (ppar how (j + 1) 1 (pfails N)) := by
  have e : pfails N 0 15 = nI kk := by
    unfold pfails
    rw [zup_at, if_pos h15, h14]
  obtain ⟨a, b⟩ := FLT (b0 := b0) (n0 := n0) (len := len) (t0 := t0) (how := how) (N := pfails N) hq hk hK e (by unfold pfails; exact hM.z (by omega)) hp.fails
  exact ⟨(b j 1).1, by rw [(b j 1).2]; exact a⟩
end SHUT
