/-! The law's body: steps one by one. -/
abbrev mL_law : zMI := (yL_law, cL_law, 13, (Option.some .boolean))
theorem zS.wide {l : Launch} {d : Nat} {D : zD} {b0 : Nat} {mi : zMI} {cs ns cs' ns' pc : Nat} {L : List (Option Value)} {st : List Value} {g : zG} {f : zI} {Q : Nat → Nat → zKT → Prop} (h1 : cs ≤ cs') (h2 : ns ≤ ns') (k : zS l d D b0 mi cs' ns' pc L st g f Q) : zS l d D b0 mi cs ns pc L st g f Q := by
  obtain ⟨mc, ms, K, hQ, a1, a2, hT⟩ := k
  exact ⟨mc, ms, K, hQ, Nat.le_trans h1 a1, Nat.le_trans h2 a2, fun p e R s m args below meth c H locs ls C hK hR hL hH hF => W.widen h1 h2 (hT p e R s m args below meth c H locs ls C hK hR hL hH hF)⟩
section LIN
variable {l : Launch} {d : Nat} {D : zD} {b0 n0 c c' k k' a T cs ns : Nat} {g G : zG} {f F M N E : zI} {m4 m5 w v8 : Int32} {Q : Nat → Nat → zKT → Prop}
/-- what holds of the state at every turn -/
def NI (M : zI) : Prop := LABM M ∧ NQ M ∧ ¬ M 2 0 = -9 ∧ M 0 4 = 0
theorem OB.stepI (h : OB b0 n0 c k M g f) (hk : 120 * k ≤ 64800) (h5 : M 2 5 = 1) (hI : NI M) : NI (pstep M) ∧ (FT M → FT (pstep M)) := by
  obtain ⟨a1, a2, a3, a4⟩ := hI
  obtain ⟨b1, b2, b3, b4⟩ := h.step hk h5 a1 a2
  obtain ⟨-, c2, -⟩ := h.one hk h5
  exact ⟨⟨b1, b2, by rw [c2.2.2 0 (by decide)]; exact a3, b4.trans a4⟩, b3⟩
theorem OB.a20 (h : OB b0 n0 c k M g f) (v : Int32) : (panswer M v).2 2 0 = M 2 0 ∧ (pdrop M v).2 2 0 = M 2 0 := by
  obtain ⟨g, R, f, C, t, y, n, -, -, h, -⟩ := h
  obtain ⟨-, -, a2, -⟩ := RQ.answer h.2.2.2.1.1 h.2.2.2.1.2.2 v
  obtain ⟨-, -, -, b2, -⟩ := RQ.drop h.2.2.2.1.1 h.2.2.2.1.2.2 h.1.1.2 v
  exact ⟨a2.2.2 0 (by decide), b2.2.2 0 (by decide)⟩
theorem OB.ansI (h : OB b0 n0 c k M g f) (hI : NI M) (v : Int32) : NI (panswer M v).2 ∧ (FT M → FT (panswer M v).2) := by
  obtain ⟨a1, a2, a3, a4⟩ := hI
  obtain ⟨b1, b2, b3, b4⟩ := h.ans a1 a2 v
  exact ⟨⟨b1, b2, by rw [(h.a20 v).1]; exact a3, b4.trans a4⟩, b3⟩
theorem OB.drpI (h : OB b0 n0 c k M g f) (hI : NI M) (v : Int32) : NI (pdrop M v).2 ∧ (M 2 5 = 3 → pdepth (pdrop M v).2 = 1) := by
  obtain ⟨a1, a2, a3, a4⟩ := hI
  obtain ⟨b1, b2, b3, b4⟩ := h.drp a1 a2 v
  exact ⟨⟨b1, b2, by rw [(h.a20 v).2]; exact a3, b4.trans a4⟩, b3⟩
theorem prunA_no (n : Nat) (h : ¬ M 2 5 = 1) : prunA n M = M := by
  cases n with
  | zero => rfl
  | succ n => exact if_neg h
theorem L_inner (hd : 10 ≤ d) (hG : HG n0 c c' a) {S k0 cs0 ns0 : Nat} {x10 : Int32} {r26 : Nat → Option Nat} (hS : S ≤ 30) (hk : 120 * (k0 + S) ≤ 64800) (hk' : 120 * k' ≤ 64800)
    (hend : ∀ (g : zG) (f : zI) (k2 j2 : Nat) (o12 : Option Value), k2 ≤ k0 + S → OB b0 n0 c k2 E g f → OB b0 n0 c' k' E g f → g.2.2.2 (c + 26) = r26 → NI E → (w = 0 → FT E) → zS l d D b0 mL_law (cs0 + 335 * S) (ns0 + 11256 * S) 223 [some (.ref (zsB D)), some (.ref c), some (.ref c'), some (.ref a), some (.int m4), some (.int m5), some (.int w), some (.int (nI T)), some (.int v8), some (.int (nI S)), some (.int x10), some (.int (nI j2)), o12] [] g f Q) :
    ∀ (n j : Nat) (M : zI) (g : zG) (f : zI) (k : Nat) (o12 : Option Value), j + n = S → prunA n M = E → OB b0 n0 c k M g f → OB b0 n0 c' k' E g f → g.2.2.2 (c + 26) = r26 → NI M → (w = 0 → FT M) → k + n ≤ k0 + S → zS l d D b0 mL_law (cs0 + 335 * j) (ns0 + 11256 * j) 175 [some (.ref (zsB D)), some (.ref c), some (.ref c'), some (.ref a), some (.int m4), some (.int m5), some (.int w), some (.int (nI T)), some (.int v8), some (.int (nI S)), some (.int x10), some (.int (nI j)), o12] [] g f Q := by
  intro n
  induction n with
  | zero =>
    intro j M g f k o12 hj hE hO hP h26 hI hF hkn
    obtain rfl : j = S := by omega
    obtain rfl : M = E := hE
    refine z_iload11 dL_law_175 ?_
    refine z_iload9 dL_law_177 ?_
    refine z_icmp_ge (tgt := 223) dL_law_179 (by decide) (fun _ => ?_) (fun c179 => absurd c179 Int32.lt_irrefl)
    show zS _ _ _ _ _ _ _ 223 _ _ _ _ _
    exact hend g f k j o12 (by omega) hO hP h26 hI hF
  | succ n ih =>
    intro j M g f k o12 hj hE hO hP h26 hI hF hkn
    by_cases q : ptold M 0 = 1
    · have h5 : M 2 5 = 1 := q
      obtain ⟨-, -, -, ep⟩ := hO.one (by omega) h5
      have hE : prunA n (pstep M) = E := (if_pos h5).symm.trans hE
      obtain ⟨hI', hF'⟩ := hO.stepI (by omega) h5 hI
      refine z_iload11 dL_law_175 ?_
      refine z_iload9 dL_law_177 ?_
      refine z_icmp_ge (tgt := 223) dL_law_179 (by decide) (fun c179 => absurd (nI_lt (show j < S by omega) (by omega)) c179) (fun _ => ?_)
      show zS _ _ _ _ _ _ _ 182 _ _ _ _ _
      refine z_aload1 dL_law_182 ?_
      refine z_iconst (v := 0) dL_law_183 (by decide) ?_
      refine z_callVi zmd_X11_told rfl (by decide) zl_RL_49 zin_X11_told zsel_X11_told (O_told (d := d - 1) hO (by omega) 0) hO.inn rfl rfl (by omega) rfl dL_law_184 ?_
      refine z_iconst (v := 1) dL_law_187 (by decide) ?_
      refine z_icmp_ne (tgt := 223) dL_law_188 (by decide) (fun c188 => absurd q c188) (fun _ => ?_)
      show zS _ _ _ _ _ _ _ 191 _ _ _ _ _
      refine z_aload1 dL_law_191 ?_
      refine z_iconst (v := 1) dL_law_192 (by decide) ?_
      refine z_callV zmd_X11_run rfl (by decide) zl_RL_87 zin_X11_run zsel_X11_run (O_run (d := d - 1) hO (by omega) (by omega) 1) hO.inn rfl rfl (by omega) rfl dL_law_193 (fun r1 g1 f1 mc1 ms1 q1 => ?_)
      obtain ⟨rfl, hc1, hs1, h1, K1⟩ := q1
      rw [ep] at h1 ⊢
      have hP1 := hP.oth (by omega) hG h1 K1
      refine z_istore12 dL_law_196 ?_
      refine z_iload12 dL_law_198 ?_
      refine z_aload1 dL_law_200 ?_
      refine z_iconst (v := 0) dL_law_201 (by decide) ?_
      refine z_callVi zmd_X11_told rfl (by decide) zl_RL_49 zin_X11_told zsel_X11_told (O_told (d := d - 1) h1 (by omega) 0) h1.inn rfl rfl (by omega) rfl dL_law_202 ?_
      refine z_icmp_ne (tgt := 215) dL_law_205 (by decide) (fun c205 => absurd rfl c205) (fun _ => ?_)
      show zS _ _ _ _ _ _ _ 208 _ _ _ _ _
      refine z_aload1 dL_law_208 ?_
      refine z_callSi zmd_L_isSound zl_RL_90 zst_L_isSound (L_isSound (d := d - 1) h1 (h1.snd hI'.2.1) (by omega)) rfl rfl (by omega) rfl dL_law_209 ?_
      refine z_if_ne (tgt := 217) dL_law_212 (by decide) (fun _ => ?_) (fun c212 => absurd c212 (by decide))
      show zS _ _ _ _ _ _ _ 217 _ _ _ _ _
      refine z_iinc11 (y := 1) dL_law_217 (by decide) ?_
      refine z_goto (tgt := 175) dL_law_220 (by decide) ?_
      show zS _ _ _ _ _ _ _ 175 _ _ _ _ _
      rw [show nI j + 1 = nI (j + 1) from ixA rfl (ixC 1)]
      exact zS.wide (by omega) (by omega) (ih (j + 1) (pstep M) g1 f1 (k + 1) _ (by omega) hE h1 hP1 (K1.2.2.trans h26) hI' (fun z => hF' (hF z)) (by omega))
    · have h5 : ¬ M 2 5 = 1 := q
      obtain rfl : M = E := (prunA_no (n + 1) h5).symm.trans hE
      refine z_iload11 dL_law_175 ?_
      refine z_iload9 dL_law_177 ?_
      refine z_icmp_ge (tgt := 223) dL_law_179 (by decide) (fun c179 => absurd (nI_lt (show j < S by omega) (by omega)) c179) (fun _ => ?_)
      show zS _ _ _ _ _ _ _ 182 _ _ _ _ _
      refine z_aload1 dL_law_182 ?_
      refine z_iconst (v := 0) dL_law_183 (by decide) ?_
      refine z_callVi zmd_X11_told rfl (by decide) zl_RL_49 zin_X11_told zsel_X11_told (O_told (d := d - 1) hO (by omega) 0) hO.inn rfl rfl (by omega) rfl dL_law_184 ?_
      refine z_iconst (v := 1) dL_law_187 (by decide) ?_
      refine z_icmp_ne (tgt := 223) dL_law_188 (by decide) (fun _ => ?_) (fun c188 => absurd c188 q)
      show zS _ _ _ _ _ _ _ 223 _ _ _ _ _
      exact zS.wide (by omega) (by omega) (hend g f k j o12 (by omega) hO hP h26 hI hF)
end LIN
