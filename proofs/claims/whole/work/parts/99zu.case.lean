/-! A call in both, by the law. -/
abbrev LL (F : LF) (c o k : Nat) : List (Option Value) := [some (.ref F.b), some (.ref c), some (.ref o), some (.int (nI (4 * k)))]
theorem JS.c {b0 n0 c o k : Nat} {g : zG} {f : zI} (h : JS b0 n0 c o k g f) : zIn b0 g c 11 := by
  obtain ⟨g0, R, f0, C, M, t, y, n, ⟨rfl, rfl⟩, ⟨hW, -, -⟩, -⟩ := h
  exact (hW.i 0 rfl).gv
section LCASE
variable {F : LF} {cs ns n0 c o k q : Nat} {g : zG} {f : zI}
def LK (F : LF) (n0 c o q k cs ns : Nat) (f : zI) : Prop := ∀ (mc ns' : Nat) (g' : zG) (f' : zI), Tk (Ln c f) (Ln c f') mc → ns' ≤ ns + 11256 → JS F.s.heap.size n0 c o (q + 1) g' f' → LW F (cs + mc) ns' 595 (LL F c o k) [] g' f'
theorem L_write (X : LX F) (hJ : JS F.s.heap.size n0 c o q g f) (hk : 120 * (q + 1) ≤ 64800) (h4 : 4 * k + 4 ≤ F.N) (hc : cs + 364 ≤ 175071) (hs : ns + 11256 ≤ 8577036) (kk : LK F n0 c o q k cs ns f) : LW F cs ns 132 (LL F c o k) [] g f := by
  refine L_aload X dL_law_132 rfl rfl ?_
  refine L_aload X dL_law_133 rfl rfl ?_
  refine L_iload X dL_law_134 rfl rfl ?_
  refine L_iconst (v := 1) X dL_law_135 (by decide) ?_
  refine L_iadd X dL_law_136 ?_
  refine L_sld X (j := 4 * k + 1) (ixA rfl (ixC 1)) (by omega) dL_law_137 ?_
  refine L_callV X zmd_X11_write rfl (by decide) zl_RL_13 zin_X11_write zsel_X11_write (J_write (d := 8) hJ hk (Nat.le_refl _) (F.xs (4 * k + 1))) hJ.c rfl rfl (by decide) rfl dL_law_138 (fun r g' f' mc ms h => ⟨by have := h.1; omega, by have := h.2.1; omega⟩) (fun r1 g1 f1 mc1 ms1 h1 => ?_)
  obtain ⟨hc1, hs1, ho1, hT, z, rfl, hM1⟩ := h1
  show LW F _ _ 141 _ [.int z] _ _
  refine L_aload X dL_law_141 rfl rfl ?_
  refine L_aload X dL_law_142 rfl rfl ?_
  refine L_iload X dL_law_143 rfl rfl ?_
  refine L_iconst (v := 1) X dL_law_144 (by decide) ?_
  refine L_iadd X dL_law_145 ?_
  refine L_sld X (j := 4 * k + 1) (ixA rfl (ixC 1)) (by omega) dL_law_146 ?_
  refine L_callV X zmd_X12_write rfl (by decide) zl_RL_17 zin_X12_write zsel_X12_write hM1 ho1 rfl rfl (by decide) rfl dL_law_147 (fun r g' f' mc ms h => ⟨by have := h.1; omega, by have := h.2.1; omega⟩) (fun r2 g2 f2 mc2 ms2 h2 => ?_)
  obtain ⟨rfl, rfl, rfl, hJ2, hl2⟩ := h2
  show LW F _ _ 150 _ [.int z, .int z] _ _
  exact L_icmp_eq X dL_law_150 (tgt := 595) rfl (kk mc1 _ _ _ (by rw [hl2]; exact hT) (by omega) hJ2)
theorem L_wipe (X : LX F) (hJ : JS F.s.heap.size n0 c o q g f) (hk : 120 * (q + 1) ≤ 64800) (h4 : 4 * k + 4 ≤ F.N) (hc : cs + 364 ≤ 175071) (hs : ns + 11256 ≤ 8577036) (kk : LK F n0 c o q k cs ns f) : LW F cs ns 155 (LL F c o k) [] g f := by
  refine L_aload X dL_law_155 rfl rfl ?_
  refine L_callV X zmd_X11_wipe rfl (by decide) zl_RL_18 zin_X11_wipe zsel_X11_wipe (J_wipe (d := 8) hJ hk (Nat.le_refl _)) hJ.c rfl rfl (by decide) rfl dL_law_156 (fun r g' f' mc ms h => ⟨by have := h.1; omega, by have := h.2.1; omega⟩) (fun r1 g1 f1 mc1 ms1 h1 => ?_)
  obtain ⟨hc1, hs1, ho1, hT, z, rfl, hM1⟩ := h1
  show LW F _ _ 159 _ [.int z] _ _
  refine L_aload X dL_law_159 rfl rfl ?_
  refine L_callV X zmd_X12_wipe rfl (by decide) zl_RL_22 zin_X12_wipe zsel_X12_wipe hM1 ho1 rfl rfl (by decide) rfl dL_law_160 (fun r g' f' mc ms h => ⟨by have := h.1; omega, by have := h.2.1; omega⟩) (fun r2 g2 f2 mc2 ms2 h2 => ?_)
  obtain ⟨rfl, rfl, rfl, hJ2, hl2⟩ := h2
  show LW F _ _ 163 _ [.int z, .int z] _ _
  exact L_icmp_eq X dL_law_163 (tgt := 595) rfl (kk mc1 _ _ _ (by rw [hl2]; exact hT) (by omega) hJ2)
theorem L_fault (X : LX F) (hJ : JS F.s.heap.size n0 c o q g f) (hk : 120 * (q + 1) ≤ 64800) (h4 : 4 * k + 4 ≤ F.N) (hc : cs + 364 ≤ 175071) (hs : ns + 11256 ≤ 8577036) (kk : LK F n0 c o q k cs ns f) : LW F cs ns 168 (LL F c o k) [] g f := by
  refine L_aload X dL_law_168 rfl rfl ?_
  refine L_aload X dL_law_169 rfl rfl ?_
  refine L_iload X dL_law_170 rfl rfl ?_
  refine L_iconst (v := 1) X dL_law_171 (by decide) ?_
  refine L_iadd X dL_law_172 ?_
  refine L_sld X (j := 4 * k + 1) (ixA rfl (ixC 1)) (by omega) dL_law_173 ?_
  refine L_callV X zmd_X11_fault rfl (by decide) zl_RL_23 zin_X11_fault zsel_X11_fault (J_fault (d := 8) hJ hk (Nat.le_refl _) (F.xs (4 * k + 1))) hJ.c rfl rfl (by decide) rfl dL_law_174 (fun r g' f' mc ms h => ⟨by have := h.1; omega, by have := h.2.1; omega⟩) (fun r1 g1 f1 mc1 ms1 h1 => ?_)
  obtain ⟨hc1, hs1, ho1, hT, z, rfl, hM1⟩ := h1
  show LW F _ _ 177 _ [.int z] _ _
  refine L_aload X dL_law_177 rfl rfl ?_
  refine L_aload X dL_law_178 rfl rfl ?_
  refine L_iload X dL_law_179 rfl rfl ?_
  refine L_iconst (v := 1) X dL_law_180 (by decide) ?_
  refine L_iadd X dL_law_181 ?_
  refine L_sld X (j := 4 * k + 1) (ixA rfl (ixC 1)) (by omega) dL_law_182 ?_
  refine L_callV X zmd_X12_fault rfl (by decide) zl_RL_26 zin_X12_fault zsel_X12_fault hM1 ho1 rfl rfl (by decide) rfl dL_law_183 (fun r g' f' mc ms h => ⟨by have := h.1; omega, by have := h.2.1; omega⟩) (fun r2 g2 f2 mc2 ms2 h2 => ?_)
  obtain ⟨rfl, rfl, rfl, hJ2, hl2⟩ := h2
  show LW F _ _ 186 _ [.int z, .int z] _ _
  exact L_icmp_eq X dL_law_186 (tgt := 595) rfl (kk mc1 _ _ _ (by rw [hl2]; exact hT) (by omega) hJ2)
theorem L_load (X : LX F) (hJ : JS F.s.heap.size n0 c o q g f) (hk : 120 * (q + 1) ≤ 64800) (h4 : 4 * k + 4 ≤ F.N) (hc : cs + 364 ≤ 175071) (hs : ns + 11256 ≤ 8577036) (kk : LK F n0 c o q k cs ns f) : LW F cs ns 191 (LL F c o k) [] g f := by
  refine L_aload X dL_law_191 rfl rfl ?_
  refine L_callV X zmd_X11_load rfl (by decide) zl_RL_27 zin_X11_load zsel_X11_load (J_load (d := 8) hJ hk (Nat.le_refl _)) hJ.c rfl rfl (by decide) rfl dL_law_192 (fun r g' f' mc ms h => ⟨by have := h.1; omega, by have := h.2.1; omega⟩) (fun r1 g1 f1 mc1 ms1 h1 => ?_)
  obtain ⟨hc1, hs1, ho1, hT, z, rfl, hM1⟩ := h1
  show LW F _ _ 195 _ [.int z] _ _
  refine L_aload X dL_law_195 rfl rfl ?_
  refine L_callV X zmd_X12_load rfl (by decide) zl_RL_30 zin_X12_load zsel_X12_load hM1 ho1 rfl rfl (by decide) rfl dL_law_196 (fun r g' f' mc ms h => ⟨by have := h.1; omega, by have := h.2.1; omega⟩) (fun r2 g2 f2 mc2 ms2 h2 => ?_)
  obtain ⟨rfl, rfl, rfl, hJ2, hl2⟩ := h2
  show LW F _ _ 199 _ [.int z, .int z] _ _
  exact L_icmp_eq X dL_law_199 (tgt := 595) rfl (kk mc1 _ _ _ (by rw [hl2]; exact hT) (by omega) hJ2)
theorem L_define (X : LX F) (hJ : JS F.s.heap.size n0 c o q g f) (hk : 120 * (q + 1) ≤ 64800) (h4 : 4 * k + 4 ≤ F.N) (hc : cs + 364 ≤ 175071) (hs : ns + 11256 ≤ 8577036) (kk : LK F n0 c o q k cs ns f) : LW F cs ns 204 (LL F c o k) [] g f := by
  refine L_aload X dL_law_204 rfl rfl ?_
  refine L_aload X dL_law_205 rfl rfl ?_
  refine L_iload X dL_law_206 rfl rfl ?_
  refine L_iconst (v := 1) X dL_law_207 (by decide) ?_
  refine L_iadd X dL_law_208 ?_
  refine L_sld X (j := 4 * k + 1) (ixA rfl (ixC 1)) (by omega) dL_law_209 ?_
  refine L_callV X zmd_X11_define rfl (by decide) zl_RL_31 zin_X11_define zsel_X11_define (J_define (d := 8) hJ hk (Nat.le_refl _) (F.xs (4 * k + 1))) hJ.c rfl rfl (by decide) rfl dL_law_210 (fun r g' f' mc ms h => ⟨by have := h.1; omega, by have := h.2.1; omega⟩) (fun r1 g1 f1 mc1 ms1 h1 => ?_)
  obtain ⟨hc1, hs1, ho1, hT, z, rfl, hM1⟩ := h1
  show LW F _ _ 213 _ [.int z] _ _
  refine L_aload X dL_law_213 rfl rfl ?_
  refine L_aload X dL_law_214 rfl rfl ?_
  refine L_iload X dL_law_215 rfl rfl ?_
  refine L_iconst (v := 1) X dL_law_216 (by decide) ?_
  refine L_iadd X dL_law_217 ?_
  refine L_sld X (j := 4 * k + 1) (ixA rfl (ixC 1)) (by omega) dL_law_218 ?_
  refine L_callV X zmd_X12_define rfl (by decide) zl_RL_34 zin_X12_define zsel_X12_define hM1 ho1 rfl rfl (by decide) rfl dL_law_219 (fun r g' f' mc ms h => ⟨by have := h.1; omega, by have := h.2.1; omega⟩) (fun r2 g2 f2 mc2 ms2 h2 => ?_)
  obtain ⟨rfl, rfl, rfl, hJ2, hl2⟩ := h2
  show LW F _ _ 222 _ [.int z, .int z] _ _
  exact L_icmp_eq X dL_law_222 (tgt := 595) rfl (kk mc1 _ _ _ (by rw [hl2]; exact hT) (by omega) hJ2)
theorem L_undefine (X : LX F) (hJ : JS F.s.heap.size n0 c o q g f) (hk : 120 * (q + 1) ≤ 64800) (h4 : 4 * k + 4 ≤ F.N) (hc : cs + 364 ≤ 175071) (hs : ns + 11256 ≤ 8577036) (kk : LK F n0 c o q k cs ns f) : LW F cs ns 227 (LL F c o k) [] g f := by
  refine L_aload X dL_law_227 rfl rfl ?_
  refine L_aload X dL_law_228 rfl rfl ?_
  refine L_iload X dL_law_229 rfl rfl ?_
  refine L_iconst (v := 1) X dL_law_230 (by decide) ?_
  refine L_iadd X dL_law_231 ?_
  refine L_sld X (j := 4 * k + 1) (ixA rfl (ixC 1)) (by omega) dL_law_232 ?_
  refine L_callV X zmd_X11_undefine rfl (by decide) zl_RL_35 zin_X11_undefine zsel_X11_undefine (J_undefine (d := 8) hJ hk (Nat.le_refl _) (F.xs (4 * k + 1))) hJ.c rfl rfl (by decide) rfl dL_law_233 (fun r g' f' mc ms h => ⟨by have := h.1; omega, by have := h.2.1; omega⟩) (fun r1 g1 f1 mc1 ms1 h1 => ?_)
  obtain ⟨hc1, hs1, ho1, hT, z, rfl, hM1⟩ := h1
  show LW F _ _ 236 _ [.int z] _ _
  refine L_aload X dL_law_236 rfl rfl ?_
  refine L_aload X dL_law_237 rfl rfl ?_
  refine L_iload X dL_law_238 rfl rfl ?_
  refine L_iconst (v := 1) X dL_law_239 (by decide) ?_
  refine L_iadd X dL_law_240 ?_
  refine L_sld X (j := 4 * k + 1) (ixA rfl (ixC 1)) (by omega) dL_law_241 ?_
  refine L_callV X zmd_X12_undefine rfl (by decide) zl_RL_38 zin_X12_undefine zsel_X12_undefine hM1 ho1 rfl rfl (by decide) rfl dL_law_242 (fun r g' f' mc ms h => ⟨by have := h.1; omega, by have := h.2.1; omega⟩) (fun r2 g2 f2 mc2 ms2 h2 => ?_)
  obtain ⟨rfl, rfl, rfl, hJ2, hl2⟩ := h2
  show LW F _ _ 245 _ [.int z, .int z] _ _
  exact L_icmp_eq X dL_law_245 (tgt := 595) rfl (kk mc1 _ _ _ (by rw [hl2]; exact hT) (by omega) hJ2)
theorem L_restart (X : LX F) (hJ : JS F.s.heap.size n0 c o q g f) (hk : 120 * (q + 1) ≤ 64800) (h4 : 4 * k + 4 ≤ F.N) (hc : cs + 364 ≤ 175071) (hs : ns + 11256 ≤ 8577036) (kk : LK F n0 c o q k cs ns f) : LW F cs ns 250 (LL F c o k) [] g f := by
  refine L_aload X dL_law_250 rfl rfl ?_
  refine L_callV X zmd_X11_restart rfl (by decide) zl_RL_39 zin_X11_restart zsel_X11_restart (J_restart (d := 8) hJ hk (Nat.le_refl _)) hJ.c rfl rfl (by decide) rfl dL_law_251 (fun r g' f' mc ms h => ⟨by have := h.1; omega, by have := h.2.1; omega⟩) (fun r1 g1 f1 mc1 ms1 h1 => ?_)
  obtain ⟨hc1, hs1, ho1, hT, z, rfl, hM1⟩ := h1
  show LW F _ _ 254 _ [.int z] _ _
  refine L_aload X dL_law_254 rfl rfl ?_
  refine L_callV X zmd_X12_restart rfl (by decide) zl_RL_42 zin_X12_restart zsel_X12_restart hM1 ho1 rfl rfl (by decide) rfl dL_law_255 (fun r g' f' mc ms h => ⟨by have := h.1; omega, by have := h.2.1; omega⟩) (fun r2 g2 f2 mc2 ms2 h2 => ?_)
  obtain ⟨rfl, rfl, rfl, hJ2, hl2⟩ := h2
  show LW F _ _ 258 _ [.int z, .int z] _ _
  exact L_icmp_eq X dL_law_258 (tgt := 595) rfl (kk mc1 _ _ _ (by rw [hl2]; exact hT) (by omega) hJ2)
theorem L_listing (X : LX F) (hJ : JS F.s.heap.size n0 c o q g f) (hk : 120 * (q + 1) ≤ 64800) (h4 : 4 * k + 4 ≤ F.N) (hc : cs + 364 ≤ 175071) (hs : ns + 11256 ≤ 8577036) (kk : LK F n0 c o q k cs ns f) : LW F cs ns 263 (LL F c o k) [] g f := by
  refine L_aload X dL_law_263 rfl rfl ?_
  refine L_aload X dL_law_264 rfl rfl ?_
  refine L_iload X dL_law_265 rfl rfl ?_
  refine L_iconst (v := 1) X dL_law_266 (by decide) ?_
  refine L_iadd X dL_law_267 ?_
  refine L_sld X (j := 4 * k + 1) (ixA rfl (ixC 1)) (by omega) dL_law_268 ?_
  refine L_callV X zmd_X11_listing rfl (by decide) zl_RL_43 zin_X11_listing zsel_X11_listing (J_listing (d := 8) hJ hk (Nat.le_refl _) (F.xs (4 * k + 1))) hJ.c rfl rfl (by decide) rfl dL_law_269 (fun r g' f' mc ms h => ⟨by have := h.1; omega, by have := h.2.1; omega⟩) (fun r1 g1 f1 mc1 ms1 h1 => ?_)
  obtain ⟨hc1, hs1, ho1, hT, z, rfl, hM1⟩ := h1
  show LW F _ _ 272 _ [.int z] _ _
  refine L_aload X dL_law_272 rfl rfl ?_
  refine L_aload X dL_law_273 rfl rfl ?_
  refine L_iload X dL_law_274 rfl rfl ?_
  refine L_iconst (v := 1) X dL_law_275 (by decide) ?_
  refine L_iadd X dL_law_276 ?_
  refine L_sld X (j := 4 * k + 1) (ixA rfl (ixC 1)) (by omega) dL_law_277 ?_
  refine L_callV X zmd_X12_listing rfl (by decide) zl_RL_46 zin_X12_listing zsel_X12_listing hM1 ho1 rfl rfl (by decide) rfl dL_law_278 (fun r g' f' mc ms h => ⟨by have := h.1; omega, by have := h.2.1; omega⟩) (fun r2 g2 f2 mc2 ms2 h2 => ?_)
  obtain ⟨rfl, rfl, rfl, hJ2, hl2⟩ := h2
  show LW F _ _ 281 _ [.int z, .int z] _ _
  exact L_icmp_eq X dL_law_281 (tgt := 595) rfl (kk mc1 _ _ _ (by rw [hl2]; exact hT) (by omega) hJ2)
theorem L_may (X : LX F) (hJ : JS F.s.heap.size n0 c o q g f) (hk : 120 * (q + 1) ≤ 64800) (h4 : 4 * k + 4 ≤ F.N) (hc : cs + 364 ≤ 175071) (hs : ns + 11256 ≤ 8577036) (kk : LK F n0 c o q k cs ns f) : LW F cs ns 286 (LL F c o k) [] g f := by
  refine L_aload X dL_law_286 rfl rfl ?_
  refine L_aload X dL_law_287 rfl rfl ?_
  refine L_iload X dL_law_288 rfl rfl ?_
  refine L_iconst (v := 1) X dL_law_289 (by decide) ?_
  refine L_iadd X dL_law_290 ?_
  refine L_sld X (j := 4 * k + 1) (ixA rfl (ixC 1)) (by omega) dL_law_291 ?_
  show LW F _ _ 292 _ _ _ _
  refine L_aload X dL_law_292 rfl rfl ?_
  refine L_iload X dL_law_293 rfl rfl ?_
  refine L_iconst (v := 2) X dL_law_294 (by decide) ?_
  refine L_iadd X dL_law_295 ?_
  refine L_sld X (j := 4 * k + 2) (ixA rfl (ixC 2)) (by omega) dL_law_296 ?_
  show LW F _ _ 297 _ _ _ _
  refine L_aload X dL_law_297 rfl rfl ?_
  refine L_iload X dL_law_298 rfl rfl ?_
  refine L_iconst (v := 3) X dL_law_299 (by decide) ?_
  refine L_iadd X dL_law_300 ?_
  refine L_sld X (j := 4 * k + 3) (ixA rfl (ixC 3)) (by omega) dL_law_301 ?_
  refine L_callV X zmd_X11_may rfl (by decide) zl_RL_47 zin_X11_may zsel_X11_may (J_may (d := 8) hJ hk (Nat.le_refl _) (F.xs (4 * k + 1)) (F.xs (4 * k + 2)) (F.xs (4 * k + 3))) hJ.c rfl rfl (by decide) rfl dL_law_302 (fun r g' f' mc ms h => ⟨by have := h.1; omega, by have := h.2.1; omega⟩) (fun r1 g1 f1 mc1 ms1 h1 => ?_)
  obtain ⟨hc1, hs1, ho1, hT, z, rfl, hM1⟩ := h1
  show LW F _ _ 305 _ [.int z] _ _
  refine L_aload X dL_law_305 rfl rfl ?_
  refine L_aload X dL_law_306 rfl rfl ?_
  refine L_iload X dL_law_307 rfl rfl ?_
  refine L_iconst (v := 1) X dL_law_308 (by decide) ?_
  refine L_iadd X dL_law_309 ?_
  refine L_sld X (j := 4 * k + 1) (ixA rfl (ixC 1)) (by omega) dL_law_310 ?_
  show LW F _ _ 311 _ _ _ _
  refine L_aload X dL_law_311 rfl rfl ?_
  refine L_iload X dL_law_312 rfl rfl ?_
  refine L_iconst (v := 2) X dL_law_313 (by decide) ?_
  refine L_iadd X dL_law_314 ?_
  refine L_sld X (j := 4 * k + 2) (ixA rfl (ixC 2)) (by omega) dL_law_315 ?_
  show LW F _ _ 316 _ _ _ _
  refine L_aload X dL_law_316 rfl rfl ?_
  refine L_iload X dL_law_317 rfl rfl ?_
  refine L_iconst (v := 3) X dL_law_318 (by decide) ?_
  refine L_iadd X dL_law_319 ?_
  refine L_sld X (j := 4 * k + 3) (ixA rfl (ixC 3)) (by omega) dL_law_320 ?_
  refine L_callV X zmd_X12_may rfl (by decide) zl_RL_51 zin_X12_may zsel_X12_may hM1 ho1 rfl rfl (by decide) rfl dL_law_321 (fun r g' f' mc ms h => ⟨by have := h.1; omega, by have := h.2.1; omega⟩) (fun r2 g2 f2 mc2 ms2 h2 => ?_)
  obtain ⟨rfl, rfl, rfl, hJ2, hl2⟩ := h2
  show LW F _ _ 324 _ [.int z, .int z] _ _
  exact L_icmp_eq X dL_law_324 (tgt := 595) rfl (kk mc1 _ _ _ (by rw [hl2]; exact hT) (by omega) hJ2)
theorem L_run (X : LX F) (hJ : JS F.s.heap.size n0 c o q g f) (hk : 120 * (q + 1) ≤ 64800) (h4 : 4 * k + 4 ≤ F.N) (hc : cs + 364 ≤ 175071) (hs : ns + 11256 ≤ 8577036) (kk : LK F n0 c o q k cs ns f) : LW F cs ns 329 (LL F c o k) [] g f := by
  refine L_aload X dL_law_329 rfl rfl ?_
  refine L_aload X dL_law_330 rfl rfl ?_
  refine L_iload X dL_law_331 rfl rfl ?_
  refine L_iconst (v := 1) X dL_law_332 (by decide) ?_
  refine L_iadd X dL_law_333 ?_
  refine L_sld X (j := 4 * k + 1) (ixA rfl (ixC 1)) (by omega) dL_law_334 ?_
  refine L_callV X zmd_X11_run rfl (by decide) zl_RL_52 zin_X11_run zsel_X11_run (J_run (d := 8) hJ hk (Nat.le_refl _) (F.xs (4 * k + 1))) hJ.c rfl rfl (by decide) rfl dL_law_335 (fun r g' f' mc ms h => ⟨by have := h.1; omega, by have := h.2.1; omega⟩) (fun r1 g1 f1 mc1 ms1 h1 => ?_)
  obtain ⟨hc1, hs1, ho1, hT, z, rfl, hM1⟩ := h1
  show LW F _ _ 338 _ [.int z] _ _
  refine L_aload X dL_law_338 rfl rfl ?_
  refine L_aload X dL_law_339 rfl rfl ?_
  refine L_iload X dL_law_340 rfl rfl ?_
  refine L_iconst (v := 1) X dL_law_341 (by decide) ?_
  refine L_iadd X dL_law_342 ?_
  refine L_sld X (j := 4 * k + 1) (ixA rfl (ixC 1)) (by omega) dL_law_343 ?_
  refine L_callV X zmd_X12_run rfl (by decide) zl_RL_55 zin_X12_run zsel_X12_run hM1 ho1 rfl rfl (by decide) rfl dL_law_344 (fun r g' f' mc ms h => ⟨by have := h.1; omega, by have := h.2.1; omega⟩) (fun r2 g2 f2 mc2 ms2 h2 => ?_)
  obtain ⟨rfl, rfl, rfl, hJ2, hl2⟩ := h2
  show LW F _ _ 347 _ [.int z, .int z] _ _
  exact L_icmp_eq X dL_law_347 (tgt := 595) rfl (kk mc1 _ _ _ (by rw [hl2]; exact hT) (by omega) hJ2)
theorem L_answer (X : LX F) (hJ : JS F.s.heap.size n0 c o q g f) (hk : 120 * (q + 1) ≤ 64800) (h4 : 4 * k + 4 ≤ F.N) (hc : cs + 364 ≤ 175071) (hs : ns + 11256 ≤ 8577036) (kk : LK F n0 c o q k cs ns f) : LW F cs ns 352 (LL F c o k) [] g f := by
  refine L_aload X dL_law_352 rfl rfl ?_
  refine L_aload X dL_law_353 rfl rfl ?_
  refine L_iload X dL_law_354 rfl rfl ?_
  refine L_iconst (v := 1) X dL_law_355 (by decide) ?_
  refine L_iadd X dL_law_356 ?_
  refine L_sld X (j := 4 * k + 1) (ixA rfl (ixC 1)) (by omega) dL_law_357 ?_
  refine L_callV X zmd_X11_answer rfl (by decide) zl_RL_56 zin_X11_answer zsel_X11_answer (J_answer (d := 8) hJ hk (Nat.le_refl _) (F.xs (4 * k + 1))) hJ.c rfl rfl (by decide) rfl dL_law_358 (fun r g' f' mc ms h => ⟨by have := h.1; omega, by have := h.2.1; omega⟩) (fun r1 g1 f1 mc1 ms1 h1 => ?_)
  obtain ⟨hc1, hs1, ho1, hT, z, rfl, hM1⟩ := h1
  show LW F _ _ 361 _ [.int z] _ _
  refine L_aload X dL_law_361 rfl rfl ?_
  refine L_aload X dL_law_362 rfl rfl ?_
  refine L_iload X dL_law_363 rfl rfl ?_
  refine L_iconst (v := 1) X dL_law_364 (by decide) ?_
  refine L_iadd X dL_law_365 ?_
  refine L_sld X (j := 4 * k + 1) (ixA rfl (ixC 1)) (by omega) dL_law_366 ?_
  refine L_callV X zmd_X12_answer rfl (by decide) zl_RL_59 zin_X12_answer zsel_X12_answer hM1 ho1 rfl rfl (by decide) rfl dL_law_367 (fun r g' f' mc ms h => ⟨by have := h.1; omega, by have := h.2.1; omega⟩) (fun r2 g2 f2 mc2 ms2 h2 => ?_)
  obtain ⟨rfl, rfl, rfl, hJ2, hl2⟩ := h2
  show LW F _ _ 370 _ [.int z, .int z] _ _
  exact L_icmp_eq X dL_law_370 (tgt := 595) rfl (kk mc1 _ _ _ (by rw [hl2]; exact hT) (by omega) hJ2)
theorem L_drop (X : LX F) (hJ : JS F.s.heap.size n0 c o q g f) (hk : 120 * (q + 1) ≤ 64800) (h4 : 4 * k + 4 ≤ F.N) (hc : cs + 364 ≤ 175071) (hs : ns + 11256 ≤ 8577036) (kk : LK F n0 c o q k cs ns f) : LW F cs ns 375 (LL F c o k) [] g f := by
  refine L_aload X dL_law_375 rfl rfl ?_
  refine L_aload X dL_law_376 rfl rfl ?_
  refine L_iload X dL_law_377 rfl rfl ?_
  refine L_iconst (v := 1) X dL_law_378 (by decide) ?_
  refine L_iadd X dL_law_379 ?_
  refine L_sld X (j := 4 * k + 1) (ixA rfl (ixC 1)) (by omega) dL_law_380 ?_
  refine L_callV X zmd_X11_drop rfl (by decide) zl_RL_60 zin_X11_drop zsel_X11_drop (J_drop (d := 8) hJ hk (Nat.le_refl _) (F.xs (4 * k + 1))) hJ.c rfl rfl (by decide) rfl dL_law_381 (fun r g' f' mc ms h => ⟨by have := h.1; omega, by have := h.2.1; omega⟩) (fun r1 g1 f1 mc1 ms1 h1 => ?_)
  obtain ⟨hc1, hs1, ho1, hT, z, rfl, hM1⟩ := h1
  show LW F _ _ 384 _ [.int z] _ _
  refine L_aload X dL_law_384 rfl rfl ?_
  refine L_aload X dL_law_385 rfl rfl ?_
  refine L_iload X dL_law_386 rfl rfl ?_
  refine L_iconst (v := 1) X dL_law_387 (by decide) ?_
  refine L_iadd X dL_law_388 ?_
  refine L_sld X (j := 4 * k + 1) (ixA rfl (ixC 1)) (by omega) dL_law_389 ?_
  refine L_callV X zmd_X12_drop rfl (by decide) zl_RL_63 zin_X12_drop zsel_X12_drop hM1 ho1 rfl rfl (by decide) rfl dL_law_390 (fun r g' f' mc ms h => ⟨by have := h.1; omega, by have := h.2.1; omega⟩) (fun r2 g2 f2 mc2 ms2 h2 => ?_)
  obtain ⟨rfl, rfl, rfl, hJ2, hl2⟩ := h2
  show LW F _ _ 393 _ [.int z, .int z] _ _
  exact L_icmp_eq X dL_law_393 (tgt := 595) rfl (kk mc1 _ _ _ (by rw [hl2]; exact hT) (by omega) hJ2)
theorem L_told (X : LX F) (hJ : JS F.s.heap.size n0 c o q g f) (hk : 120 * (q + 1) ≤ 64800) (h4 : 4 * k + 4 ≤ F.N) (hc : cs + 364 ≤ 175071) (hs : ns + 11256 ≤ 8577036) (kk : LK F n0 c o q k cs ns f) : LW F cs ns 398 (LL F c o k) [] g f := by
  refine L_aload X dL_law_398 rfl rfl ?_
  refine L_aload X dL_law_399 rfl rfl ?_
  refine L_iload X dL_law_400 rfl rfl ?_
  refine L_iconst (v := 1) X dL_law_401 (by decide) ?_
  refine L_iadd X dL_law_402 ?_
  refine L_sld X (j := 4 * k + 1) (ixA rfl (ixC 1)) (by omega) dL_law_403 ?_
  refine L_callV X zmd_X11_told rfl (by decide) zl_RL_64 zin_X11_told zsel_X11_told (J_told (d := 8) hJ hk (Nat.le_refl _) (F.xs (4 * k + 1))) hJ.c rfl rfl (by decide) rfl dL_law_404 (fun r g' f' mc ms h => ⟨by have := h.1; omega, by have := h.2.1; omega⟩) (fun r1 g1 f1 mc1 ms1 h1 => ?_)
  obtain ⟨hc1, hs1, ho1, hT, z, rfl, hM1⟩ := h1
  show LW F _ _ 407 _ [.int z] _ _
  refine L_aload X dL_law_407 rfl rfl ?_
  refine L_aload X dL_law_408 rfl rfl ?_
  refine L_iload X dL_law_409 rfl rfl ?_
  refine L_iconst (v := 1) X dL_law_410 (by decide) ?_
  refine L_iadd X dL_law_411 ?_
  refine L_sld X (j := 4 * k + 1) (ixA rfl (ixC 1)) (by omega) dL_law_412 ?_
  refine L_callV X zmd_X12_told rfl (by decide) zl_RL_67 zin_X12_told zsel_X12_told hM1 ho1 rfl rfl (by decide) rfl dL_law_413 (fun r g' f' mc ms h => ⟨by have := h.1; omega, by have := h.2.1; omega⟩) (fun r2 g2 f2 mc2 ms2 h2 => ?_)
  obtain ⟨rfl, rfl, rfl, hJ2, hl2⟩ := h2
  show LW F _ _ 416 _ [.int z, .int z] _ _
  exact L_icmp_eq X dL_law_416 (tgt := 595) rfl (kk mc1 _ _ _ (by rw [hl2]; exact hT) (by omega) hJ2)
theorem L_value (X : LX F) (hJ : JS F.s.heap.size n0 c o q g f) (hk : 120 * (q + 1) ≤ 64800) (h4 : 4 * k + 4 ≤ F.N) (hc : cs + 364 ≤ 175071) (hs : ns + 11256 ≤ 8577036) (kk : LK F n0 c o q k cs ns f) : LW F cs ns 421 (LL F c o k) [] g f := by
  refine L_aload X dL_law_421 rfl rfl ?_
  refine L_callV X zmd_X11_value rfl (by decide) zl_RL_68 zin_X11_value zsel_X11_value (J_value (d := 8) hJ hk (Nat.le_refl _)) hJ.c rfl rfl (by decide) rfl dL_law_422 (fun r g' f' mc ms h => ⟨by have := h.1; omega, by have := h.2.1; omega⟩) (fun r1 g1 f1 mc1 ms1 h1 => ?_)
  obtain ⟨hc1, hs1, ho1, hT, z, rfl, hM1⟩ := h1
  show LW F _ _ 425 _ [.int z] _ _
  refine L_aload X dL_law_425 rfl rfl ?_
  refine L_callV X zmd_X12_value rfl (by decide) zl_RL_71 zin_X12_value zsel_X12_value hM1 ho1 rfl rfl (by decide) rfl dL_law_426 (fun r g' f' mc ms h => ⟨by have := h.1; omega, by have := h.2.1; omega⟩) (fun r2 g2 f2 mc2 ms2 h2 => ?_)
  obtain ⟨rfl, rfl, rfl, hJ2, hl2⟩ := h2
  show LW F _ _ 429 _ [.int z, .int z] _ _
  exact L_icmp_eq X dL_law_429 (tgt := 595) rfl (kk mc1 _ _ _ (by rw [hl2]; exact hT) (by omega) hJ2)
theorem L_focus (X : LX F) (hJ : JS F.s.heap.size n0 c o q g f) (hk : 120 * (q + 1) ≤ 64800) (h4 : 4 * k + 4 ≤ F.N) (hc : cs + 364 ≤ 175071) (hs : ns + 11256 ≤ 8577036) (kk : LK F n0 c o q k cs ns f) : LW F cs ns 434 (LL F c o k) [] g f := by
  refine L_aload X dL_law_434 rfl rfl ?_
  refine L_callV X zmd_X11_focus rfl (by decide) zl_RL_72 zin_X11_focus zsel_X11_focus (J_focus (d := 8) hJ hk (Nat.le_refl _)) hJ.c rfl rfl (by decide) rfl dL_law_435 (fun r g' f' mc ms h => ⟨by have := h.1; omega, by have := h.2.1; omega⟩) (fun r1 g1 f1 mc1 ms1 h1 => ?_)
  obtain ⟨hc1, hs1, ho1, hT, z, rfl, hM1⟩ := h1
  show LW F _ _ 438 _ [.int z] _ _
  refine L_aload X dL_law_438 rfl rfl ?_
  refine L_callV X zmd_X12_focus rfl (by decide) zl_RL_75 zin_X12_focus zsel_X12_focus hM1 ho1 rfl rfl (by decide) rfl dL_law_439 (fun r g' f' mc ms h => ⟨by have := h.1; omega, by have := h.2.1; omega⟩) (fun r2 g2 f2 mc2 ms2 h2 => ?_)
  obtain ⟨rfl, rfl, rfl, hJ2, hl2⟩ := h2
  show LW F _ _ 442 _ [.int z, .int z] _ _
  exact L_icmp_eq X dL_law_442 (tgt := 595) rfl (kk mc1 _ _ _ (by rw [hl2]; exact hT) (by omega) hJ2)
theorem L_trace (X : LX F) (hJ : JS F.s.heap.size n0 c o q g f) (hk : 120 * (q + 1) ≤ 64800) (h4 : 4 * k + 4 ≤ F.N) (hc : cs + 364 ≤ 175071) (hs : ns + 11256 ≤ 8577036) (kk : LK F n0 c o q k cs ns f) : LW F cs ns 447 (LL F c o k) [] g f := by
  refine L_aload X dL_law_447 rfl rfl ?_
  refine L_aload X dL_law_448 rfl rfl ?_
  refine L_iload X dL_law_449 rfl rfl ?_
  refine L_iconst (v := 1) X dL_law_450 (by decide) ?_
  refine L_iadd X dL_law_451 ?_
  refine L_sld X (j := 4 * k + 1) (ixA rfl (ixC 1)) (by omega) dL_law_452 ?_
  refine L_callV X zmd_X11_trace rfl (by decide) zl_RL_76 zin_X11_trace zsel_X11_trace (J_trace (d := 8) hJ hk (Nat.le_refl _) (F.xs (4 * k + 1))) hJ.c rfl rfl (by decide) rfl dL_law_453 (fun r g' f' mc ms h => ⟨by have := h.1; omega, by have := h.2.1; omega⟩) (fun r1 g1 f1 mc1 ms1 h1 => ?_)
  obtain ⟨hc1, hs1, ho1, hT, z, rfl, hM1⟩ := h1
  show LW F _ _ 456 _ [.int z] _ _
  refine L_aload X dL_law_456 rfl rfl ?_
  refine L_aload X dL_law_457 rfl rfl ?_
  refine L_iload X dL_law_458 rfl rfl ?_
  refine L_iconst (v := 1) X dL_law_459 (by decide) ?_
  refine L_iadd X dL_law_460 ?_
  refine L_sld X (j := 4 * k + 1) (ixA rfl (ixC 1)) (by omega) dL_law_461 ?_
  refine L_callV X zmd_X12_trace rfl (by decide) zl_RL_79 zin_X12_trace zsel_X12_trace hM1 ho1 rfl rfl (by decide) rfl dL_law_462 (fun r g' f' mc ms h => ⟨by have := h.1; omega, by have := h.2.1; omega⟩) (fun r2 g2 f2 mc2 ms2 h2 => ?_)
  obtain ⟨rfl, rfl, rfl, hJ2, hl2⟩ := h2
  show LW F _ _ 465 _ [.int z, .int z] _ _
  exact L_icmp_eq X dL_law_465 (tgt := 595) rfl (kk mc1 _ _ _ (by rw [hl2]; exact hT) (by omega) hJ2)
theorem L_performed (X : LX F) (hJ : JS F.s.heap.size n0 c o q g f) (hk : 120 * (q + 1) ≤ 64800) (h4 : 4 * k + 4 ≤ F.N) (hc : cs + 364 ≤ 175071) (hs : ns + 11256 ≤ 8577036) (kk : LK F n0 c o q k cs ns f) : LW F cs ns 470 (LL F c o k) [] g f := by
  refine L_aload X dL_law_470 rfl rfl ?_
  refine L_aload X dL_law_471 rfl rfl ?_
  refine L_iload X dL_law_472 rfl rfl ?_
  refine L_iconst (v := 1) X dL_law_473 (by decide) ?_
  refine L_iadd X dL_law_474 ?_
  refine L_sld X (j := 4 * k + 1) (ixA rfl (ixC 1)) (by omega) dL_law_475 ?_
  refine L_callV X zmd_X11_performed rfl (by decide) zl_RL_80 zin_X11_performed zsel_X11_performed (J_performed (d := 8) hJ hk (Nat.le_refl _) (F.xs (4 * k + 1))) hJ.c rfl rfl (by decide) rfl dL_law_476 (fun r g' f' mc ms h => ⟨by have := h.1; omega, by have := h.2.1; omega⟩) (fun r1 g1 f1 mc1 ms1 h1 => ?_)
  obtain ⟨hc1, hs1, ho1, hT, z, rfl, hM1⟩ := h1
  show LW F _ _ 479 _ [.int z] _ _
  refine L_aload X dL_law_479 rfl rfl ?_
  refine L_aload X dL_law_480 rfl rfl ?_
  refine L_iload X dL_law_481 rfl rfl ?_
  refine L_iconst (v := 1) X dL_law_482 (by decide) ?_
  refine L_iadd X dL_law_483 ?_
  refine L_sld X (j := 4 * k + 1) (ixA rfl (ixC 1)) (by omega) dL_law_484 ?_
  refine L_callV X zmd_X12_performed rfl (by decide) zl_RL_83 zin_X12_performed zsel_X12_performed hM1 ho1 rfl rfl (by decide) rfl dL_law_485 (fun r g' f' mc ms h => ⟨by have := h.1; omega, by have := h.2.1; omega⟩) (fun r2 g2 f2 mc2 ms2 h2 => ?_)
  obtain ⟨rfl, rfl, rfl, hJ2, hl2⟩ := h2
  show LW F _ _ 488 _ [.int z, .int z] _ _
  exact L_icmp_eq X dL_law_488 (tgt := 595) rfl (kk mc1 _ _ _ (by rw [hl2]; exact hT) (by omega) hJ2)
theorem L_frame (X : LX F) (hJ : JS F.s.heap.size n0 c o q g f) (hk : 120 * (q + 1) ≤ 64800) (h4 : 4 * k + 4 ≤ F.N) (hc : cs + 364 ≤ 175071) (hs : ns + 11256 ≤ 8577036) (kk : LK F n0 c o q k cs ns f) : LW F cs ns 493 (LL F c o k) [] g f := by
  refine L_aload X dL_law_493 rfl rfl ?_
  refine L_aload X dL_law_494 rfl rfl ?_
  refine L_iload X dL_law_495 rfl rfl ?_
  refine L_iconst (v := 1) X dL_law_496 (by decide) ?_
  refine L_iadd X dL_law_497 ?_
  refine L_sld X (j := 4 * k + 1) (ixA rfl (ixC 1)) (by omega) dL_law_498 ?_
  show LW F _ _ 499 _ _ _ _
  refine L_aload X dL_law_499 rfl rfl ?_
  refine L_iload X dL_law_500 rfl rfl ?_
  refine L_iconst (v := 2) X dL_law_501 (by decide) ?_
  refine L_iadd X dL_law_502 ?_
  refine L_sld X (j := 4 * k + 2) (ixA rfl (ixC 2)) (by omega) dL_law_503 ?_
  refine L_callV X zmd_X11_frame rfl (by decide) zl_RL_84 zin_X11_frame zsel_X11_frame (J_frame (d := 8) hJ hk (Nat.le_refl _) (F.xs (4 * k + 1)) (F.xs (4 * k + 2))) hJ.c rfl rfl (by decide) rfl dL_law_504 (fun r g' f' mc ms h => ⟨by have := h.1; omega, by have := h.2.1; omega⟩) (fun r1 g1 f1 mc1 ms1 h1 => ?_)
  obtain ⟨hc1, hs1, ho1, hT, z, rfl, hM1⟩ := h1
  show LW F _ _ 507 _ [.int z] _ _
  refine L_aload X dL_law_507 rfl rfl ?_
  refine L_aload X dL_law_508 rfl rfl ?_
  refine L_iload X dL_law_509 rfl rfl ?_
  refine L_iconst (v := 1) X dL_law_510 (by decide) ?_
  refine L_iadd X dL_law_511 ?_
  refine L_sld X (j := 4 * k + 1) (ixA rfl (ixC 1)) (by omega) dL_law_512 ?_
  show LW F _ _ 513 _ _ _ _
  refine L_aload X dL_law_513 rfl rfl ?_
  refine L_iload X dL_law_514 rfl rfl ?_
  refine L_iconst (v := 2) X dL_law_515 (by decide) ?_
  refine L_iadd X dL_law_516 ?_
  refine L_sld X (j := 4 * k + 2) (ixA rfl (ixC 2)) (by omega) dL_law_517 ?_
  refine L_callV X zmd_X12_frame rfl (by decide) zl_RL_88 zin_X12_frame zsel_X12_frame hM1 ho1 rfl rfl (by decide) rfl dL_law_518 (fun r g' f' mc ms h => ⟨by have := h.1; omega, by have := h.2.1; omega⟩) (fun r2 g2 f2 mc2 ms2 h2 => ?_)
  obtain ⟨rfl, rfl, rfl, hJ2, hl2⟩ := h2
  show LW F _ _ 521 _ [.int z, .int z] _ _
  exact L_icmp_eq X dL_law_521 (tgt := 595) rfl (kk mc1 _ _ _ (by rw [hl2]; exact hT) (by omega) hJ2)
theorem L_handler (X : LX F) (hJ : JS F.s.heap.size n0 c o q g f) (hk : 120 * (q + 1) ≤ 64800) (h4 : 4 * k + 4 ≤ F.N) (hc : cs + 364 ≤ 175071) (hs : ns + 11256 ≤ 8577036) (kk : LK F n0 c o q k cs ns f) : LW F cs ns 526 (LL F c o k) [] g f := by
  refine L_aload X dL_law_526 rfl rfl ?_
  refine L_aload X dL_law_527 rfl rfl ?_
  refine L_iload X dL_law_528 rfl rfl ?_
  refine L_iconst (v := 1) X dL_law_529 (by decide) ?_
  refine L_iadd X dL_law_530 ?_
  refine L_sld X (j := 4 * k + 1) (ixA rfl (ixC 1)) (by omega) dL_law_531 ?_
  refine L_callV X zmd_X11_handler rfl (by decide) zl_RL_89 zin_X11_handler zsel_X11_handler (J_handler (d := 8) hJ hk (Nat.le_refl _) (F.xs (4 * k + 1))) hJ.c rfl rfl (by decide) rfl dL_law_532 (fun r g' f' mc ms h => ⟨by have := h.1; omega, by have := h.2.1; omega⟩) (fun r1 g1 f1 mc1 ms1 h1 => ?_)
  obtain ⟨hc1, hs1, ho1, hT, z, rfl, hM1⟩ := h1
  show LW F _ _ 535 _ [.int z] _ _
  refine L_aload X dL_law_535 rfl rfl ?_
  refine L_aload X dL_law_536 rfl rfl ?_
  refine L_iload X dL_law_537 rfl rfl ?_
  refine L_iconst (v := 1) X dL_law_538 (by decide) ?_
  refine L_iadd X dL_law_539 ?_
  refine L_sld X (j := 4 * k + 1) (ixA rfl (ixC 1)) (by omega) dL_law_540 ?_
  refine L_callV X zmd_X12_handler rfl (by decide) zl_RL_92 zin_X12_handler zsel_X12_handler hM1 ho1 rfl rfl (by decide) rfl dL_law_541 (fun r g' f' mc ms h => ⟨by have := h.1; omega, by have := h.2.1; omega⟩) (fun r2 g2 f2 mc2 ms2 h2 => ?_)
  obtain ⟨rfl, rfl, rfl, hJ2, hl2⟩ := h2
  show LW F _ _ 544 _ [.int z, .int z] _ _
  exact L_icmp_eq X dL_law_544 (tgt := 595) rfl (kk mc1 _ _ _ (by rw [hl2]; exact hT) (by omega) hJ2)
theorem L_keep (X : LX F) (hJ : JS F.s.heap.size n0 c o q g f) (hk : 120 * (q + 1) ≤ 64800) (h4 : 4 * k + 4 ≤ F.N) (hc : cs + 364 ≤ 175071) (hs : ns + 11256 ≤ 8577036) (kk : LK F n0 c o q k cs ns f) : LW F cs ns 549 (LL F c o k) [] g f := by
  refine L_aload X dL_law_549 rfl rfl ?_
  refine L_aload X dL_law_550 rfl rfl ?_
  refine L_iload X dL_law_551 rfl rfl ?_
  refine L_iconst (v := 1) X dL_law_552 (by decide) ?_
  refine L_iadd X dL_law_553 ?_
  refine L_sld X (j := 4 * k + 1) (ixA rfl (ixC 1)) (by omega) dL_law_554 ?_
  refine L_callV X zmd_X11_keep rfl (by decide) zl_RL_93 zin_X11_keep zsel_X11_keep (J_keep (d := 8) hJ hk (Nat.le_refl _) (F.xs (4 * k + 1))) hJ.c rfl rfl (by decide) rfl dL_law_555 (fun r g' f' mc ms h => ⟨by have := h.1; omega, by have := h.2.1; omega⟩) (fun r1 g1 f1 mc1 ms1 h1 => ?_)
  obtain ⟨hc1, hs1, ho1, hT, z, rfl, hM1⟩ := h1
  show LW F _ _ 558 _ [.int z] _ _
  refine L_aload X dL_law_558 rfl rfl ?_
  refine L_aload X dL_law_559 rfl rfl ?_
  refine L_iload X dL_law_560 rfl rfl ?_
  refine L_iconst (v := 1) X dL_law_561 (by decide) ?_
  refine L_iadd X dL_law_562 ?_
  refine L_sld X (j := 4 * k + 1) (ixA rfl (ixC 1)) (by omega) dL_law_563 ?_
  refine L_callV X zmd_X12_keep rfl (by decide) zl_RL_96 zin_X12_keep zsel_X12_keep hM1 ho1 rfl rfl (by decide) rfl dL_law_564 (fun r g' f' mc ms h => ⟨by have := h.1; omega, by have := h.2.1; omega⟩) (fun r2 g2 f2 mc2 ms2 h2 => ?_)
  obtain ⟨rfl, rfl, rfl, hJ2, hl2⟩ := h2
  show LW F _ _ 567 _ [.int z, .int z] _ _
  exact L_icmp_eq X dL_law_567 (tgt := 595) rfl (kk mc1 _ _ _ (by rw [hl2]; exact hT) (by omega) hJ2)
theorem L_back (X : LX F) (hJ : JS F.s.heap.size n0 c o q g f) (hk : 120 * (q + 1) ≤ 64800) (h4 : 4 * k + 4 ≤ F.N) (hc : cs + 364 ≤ 175071) (hs : ns + 11256 ≤ 8577036) (kk : LK F n0 c o q k cs ns f) : LW F cs ns 572 (LL F c o k) [] g f := by
  refine L_aload X dL_law_572 rfl rfl ?_
  refine L_aload X dL_law_573 rfl rfl ?_
  refine L_iload X dL_law_574 rfl rfl ?_
  refine L_iconst (v := 1) X dL_law_575 (by decide) ?_
  refine L_iadd X dL_law_576 ?_
  refine L_sld X (j := 4 * k + 1) (ixA rfl (ixC 1)) (by omega) dL_law_577 ?_
  refine L_callV X zmd_X11_back rfl (by decide) zl_RL_97 zin_X11_back zsel_X11_back (J_back (d := 8) hJ hk (Nat.le_refl _) (F.xs (4 * k + 1))) hJ.c rfl rfl (by decide) rfl dL_law_578 (fun r g' f' mc ms h => ⟨by have := h.1; omega, by have := h.2.1; omega⟩) (fun r1 g1 f1 mc1 ms1 h1 => ?_)
  obtain ⟨hc1, hs1, ho1, hT, z, rfl, hM1⟩ := h1
  show LW F _ _ 581 _ [.int z] _ _
  refine L_aload X dL_law_581 rfl rfl ?_
  refine L_aload X dL_law_582 rfl rfl ?_
  refine L_iload X dL_law_583 rfl rfl ?_
  refine L_iconst (v := 1) X dL_law_584 (by decide) ?_
  refine L_iadd X dL_law_585 ?_
  refine L_sld X (j := 4 * k + 1) (ixA rfl (ixC 1)) (by omega) dL_law_586 ?_
  refine L_callV X zmd_X12_back rfl (by decide) zl_RL_100 zin_X12_back zsel_X12_back hM1 ho1 rfl rfl (by decide) rfl dL_law_587 (fun r g' f' mc ms h => ⟨by have := h.1; omega, by have := h.2.1; omega⟩) (fun r2 g2 f2 mc2 ms2 h2 => ?_)
  obtain ⟨rfl, rfl, rfl, hJ2, hl2⟩ := h2
  show LW F _ _ 590 _ [.int z, .int z] _ _
  exact L_icmp_eq X dL_law_590 (tgt := 595) rfl (kk mc1 _ _ _ (by rw [hl2]; exact hT) (by omega) hJ2)
end LCASE
