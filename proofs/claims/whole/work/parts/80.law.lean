/-! THE LAW: its cases, written by a program (gen/law.py) -/
section LAC
variable {Γ : px_Cm} {G : px_Cg} {Q : State → Prop} {z zm zo sa i N nc ns : Nat} {f : Nat → Int32} {x5 x6 : Option Value} {π : px_H}
theorem cmp_0 {x : Int64} : lg_cmp x x = 0 := by
  unfold lg_cmp
  simp [Int64.lt_irrefl]
theorem law_wall (X : px_X Γ G code "VisitorStepsLaw") (A : GA G) (Hc : CAT G) (hfl : FL Γ.l) (hR : Γ.R = room_1) (Rl : RL z zm zo π) (hsc : G.ρ sa = some (.inl (.int, N, .inl f))) (hi : i + 4 < N) (hN : N < 2 ^ 31) (hc : nc + 2 ≤ Γ.R.cells) (hs : ns + 12 ≤ Γ.R.slots) (kk : ∀ x5 x6 π', RL z zm zo π' → px_G Γ G Q true (nc + 2) (ns + 12) 1409 [some (.ref sa), some (.ref z), some (.ref zm), some (.ref zo), some (.int (nI i)), x5, x6] [] π') : px_G Γ G Q true nc ns 164 [some (.ref sa), some (.ref z), some (.ref zm), some (.ref zo), some (.int (nI i)), x5, x6] [] π := by
  have hG := A.1
  have p1 : ∀ i, nI i + 1 = nI (i + 1) := nI_1
  have p2 : ∀ i, nI i + 2 = nI (i + 2) := fun i => nI_add i 2
  have p3 : ∀ i, nI i + 3 = nI (i + 3) := fun i => nI_add i 3
  have p4 : ∀ i, nI i + 4 = nI (i + 4) := fun i => nI_add i 4
  obtain ⟨h, w, wt, μ, ta, o, wd, ht, nt, nd, tl, nw, Rx⟩ := Rl
  by_cases hb : f (i + 3) = 0
  · skip
    refine pg_aload_n X d_L_law_164 rfl ?_
    refine pg_aload_n X d_L_law_165 rfl ?_
    refine pg_iload X d_L_law_166 rfl ?_
    refine pg_iconst X (1) d_L_law_168 (by decide) ?_
    refine pg_iadd X d_L_law_169 ?_
    rw [p1]
    refine pg_ialdN X d_L_law_170 (px_rd_r hsc) (by omega) (by omega) ?_
    refine pg_aload_n X d_L_law_171 rfl ?_
    refine pg_iload X d_L_law_172 rfl ?_
    refine pg_iconst X (2) d_L_law_174 (by decide) ?_
    refine pg_iadd X d_L_law_175 ?_
    rw [p2]
    refine pg_ialdN X d_L_law_176 (px_rd_r hsc) (by omega) (by omega) ?_
    refine pg_aload_n X d_L_law_177 rfl ?_
    refine pg_iload X d_L_law_178 rfl ?_
    refine pg_iconst X (3) d_L_law_180 (by decide) ?_
    refine pg_iadd X d_L_law_181 ?_
    rw [p3]
    refine pg_ialdN X d_L_law_182 (px_rd_r hsc) (by omega) (by omega) ?_
    refine pg_if_eq X d_L_law_183 (fun c1 => ?_) (fun c1 => ?_)
    rotate_left
    · exact absurd hb c1
    refine pg_iconst X (0) d_L_law_190 (by decide) ?_
    refine pg_aload_n X d_L_law_191 rfl ?_
    refine pz_SH (As := [_, _, _, _, _]) X d_L_law_192 (cw_88 hG) (sw_88 hG) rfl rfl (Nat.le_of_ble_eq_true rfl) (by rw [hR]; exact ⟨by decide, by decide⟩) (by decide) (by first | omega | (dsimp only [px_rt, px_rm]; omega)) (by first | omega | (dsimp only [px_rt, px_rm]; omega)) (op_wall A hfl Hc Rx rfl (fun c π1 M1 => ?_))
    obtain ⟨⟨μ1, hM1⟩, mod⟩ := M1
    refine pg_istore5 X d_L_law_195 ?_
    refine pg_aload_n X d_L_law_197 rfl ?_
    refine pg_aload_n X d_L_law_198 rfl ?_
    refine pg_iload X d_L_law_199 rfl ?_
    refine pg_iconst X (1) d_L_law_201 (by decide) ?_
    refine pg_iadd X d_L_law_202 ?_
    rw [p1]
    refine pg_ialdN X d_L_law_203 (px_rd_r hsc) (by omega) (by omega) ?_
    refine pg_aload_n X d_L_law_204 rfl ?_
    refine pg_iload X d_L_law_205 rfl ?_
    refine pg_iconst X (2) d_L_law_207 (by decide) ?_
    refine pg_iadd X d_L_law_208 ?_
    rw [p2]
    refine pg_ialdN X d_L_law_209 (px_rd_r hsc) (by omega) (by omega) ?_
    refine pg_aload_n X d_L_law_210 rfl ?_
    refine pg_iload X d_L_law_211 rfl ?_
    refine pg_iconst X (3) d_L_law_213 (by decide) ?_
    refine pg_iadd X d_L_law_214 ?_
    rw [p3]
    refine pg_ialdN X d_L_law_215 (px_rd_r hsc) (by omega) (by omega) ?_
    refine pg_if_eq X d_L_law_216 (fun c1 => ?_) (fun c1 => ?_)
    rotate_left
    · exact absurd hb c1
    refine pg_iconst X (0) d_L_law_223 (by decide) ?_
    refine pz_V (ci := 4) (As := [_, _, _]) X d_L_law_224 (cw_91 hG) (iw_91 hG) (vw_91 hG) (fun r h => by rw [hG.2] at h; cases h; rfl) rfl rfl (Nat.le_of_ble_eq_true rfl) (by rw [hR]; exact ⟨by decide, by decide⟩) (by decide) (by first | omega | (dsimp only [px_rt, px_rm]; omega)) (by first | omega | (dsimp only [px_rt, px_rm]; omega)) (px_rd_of (RM.o hM1)) (mod _ (fun b π2 hp T2 => ?_))
    obtain ⟨h, w, wt, μ, ta, o, wd, ht, nt, nd, tl, nw, Rx2, hc0, hb0⟩ := T2
    have hM := Rx2.2.2.1
    have ho := Rx2.2.2.2.1
    have R2 : RL z zm zo π2 := ⟨h, w, wt, μ, ta, o, wd, ht, nt, nd, tl, nw, Rx2⟩
    refine pg_istore6 X d_L_law_227 ?_
    refine pg_aload_n X d_L_law_229 rfl ?_
    refine pz_V (ci := 4) (As := []) X d_L_law_230 (cw_92 hG) (iw_92 hG) (vw_92 hG) (fun r h => by rw [hG.2] at h; cases h; rfl) rfl rfl (Nat.le_of_ble_eq_true rfl) (by rw [hR]; exact ⟨by decide, by decide⟩) (by decide) (by first | omega | (dsimp only [px_rt, px_rm]; omega)) (by first | omega | (dsimp only [px_rt, px_rm]; omega)) (px_rd_of (RM.o hM)) (t_M_thrown A hM ?_)
    rw [hc0]
    refine pg_iload X d_L_law_233 rfl ?_
    refine pg_icmp_eq X d_L_law_235 (fun c1 => ?_) (fun c1 => ?_)
    rotate_left
    · exact absurd rfl c1
    refine pg_iload X d_L_law_240 rfl ?_
    refine pg_if_ne X d_L_law_242 (fun c2 => ?_) (fun c2 => ?_)
    · skip
      refine pg_goto X d_L_law_264 ?_
      exact pg_room (by first | omega | (dsimp only [px_rt, px_rm]; omega)) (by first | omega | (dsimp only [px_rt, px_rm]; omega)) (kk _ _ π2 R2)
    have ho0 := hb0 b rfl c2
    refine pg_aload_n X d_L_law_245 rfl ?_
    refine pg_iconst X (0) d_L_law_246 (by decide) ?_
    refine pg_lald X d_L_law_247 (px_rd_of ho) in01 ?_
    change px_G Γ G Q true _ _ _ _ [.long (o 0)] π2
    rw [ho0]
    refine pg_iload X d_L_law_248 rfl ?_
    refine pg_if_eq X d_L_law_250 (fun c4 => ?_) (fun c4 => ?_)
    · subst c4
      rw [show ((0 : Int32).toInt64 : Int64) = 0 from rfl]
      refine pg_lconst X (0) d_L_law_257 (by decide) ?_
      refine pg_lcmp X d_L_law_258 ?_
      rw [cmp_0]
      refine pg_if_eq X d_L_law_259 (fun c3 => ?_) (fun c3 => ?_)
      rotate_left
      · exact absurd rfl c3
      refine pg_goto X d_L_law_264 ?_
      exact pg_room (by first | omega | (dsimp only [px_rt, px_rm]; omega)) (by first | omega | (dsimp only [px_rt, px_rm]; omega)) (kk _ _ π2 R2)
    · rcases hp with hp | hp
      · exact absurd hp c4
      · subst hp
        rw [show ((1 : Int32).toInt64 : Int64) = 1 from rfl]
        refine pg_lconst X (1) d_L_law_253 (by decide) ?_
        refine pg_goto X d_L_law_254 ?_
        refine pg_lcmp X d_L_law_258 ?_
        rw [cmp_0]
        refine pg_if_eq X d_L_law_259 (fun c3 => ?_) (fun c3 => ?_)
        rotate_left
        · exact absurd rfl c3
        refine pg_goto X d_L_law_264 ?_
        exact pg_room (by first | omega | (dsimp only [px_rt, px_rm]; omega)) (by first | omega | (dsimp only [px_rt, px_rm]; omega)) (kk _ _ π2 R2)
  · skip
    refine pg_aload_n X d_L_law_164 rfl ?_
    refine pg_aload_n X d_L_law_165 rfl ?_
    refine pg_iload X d_L_law_166 rfl ?_
    refine pg_iconst X (1) d_L_law_168 (by decide) ?_
    refine pg_iadd X d_L_law_169 ?_
    rw [p1]
    refine pg_ialdN X d_L_law_170 (px_rd_r hsc) (by omega) (by omega) ?_
    refine pg_aload_n X d_L_law_171 rfl ?_
    refine pg_iload X d_L_law_172 rfl ?_
    refine pg_iconst X (2) d_L_law_174 (by decide) ?_
    refine pg_iadd X d_L_law_175 ?_
    rw [p2]
    refine pg_ialdN X d_L_law_176 (px_rd_r hsc) (by omega) (by omega) ?_
    refine pg_aload_n X d_L_law_177 rfl ?_
    refine pg_iload X d_L_law_178 rfl ?_
    refine pg_iconst X (3) d_L_law_180 (by decide) ?_
    refine pg_iadd X d_L_law_181 ?_
    rw [p3]
    refine pg_ialdN X d_L_law_182 (px_rd_r hsc) (by omega) (by omega) ?_
    refine pg_if_eq X d_L_law_183 (fun c1 => ?_) (fun c1 => ?_)
    · exact absurd c1 hb
    refine pg_iconst X (1) d_L_law_186 (by decide) ?_
    refine pg_goto X d_L_law_187 ?_
    refine pg_aload_n X d_L_law_191 rfl ?_
    refine pz_SH (As := [_, _, _, _, _]) X d_L_law_192 (cw_88 hG) (sw_88 hG) rfl rfl (Nat.le_of_ble_eq_true rfl) (by rw [hR]; exact ⟨by decide, by decide⟩) (by decide) (by first | omega | (dsimp only [px_rt, px_rm]; omega)) (by first | omega | (dsimp only [px_rt, px_rm]; omega)) (op_wall A hfl Hc Rx rfl (fun c π1 M1 => ?_))
    obtain ⟨⟨μ1, hM1⟩, mod⟩ := M1
    refine pg_istore5 X d_L_law_195 ?_
    refine pg_aload_n X d_L_law_197 rfl ?_
    refine pg_aload_n X d_L_law_198 rfl ?_
    refine pg_iload X d_L_law_199 rfl ?_
    refine pg_iconst X (1) d_L_law_201 (by decide) ?_
    refine pg_iadd X d_L_law_202 ?_
    rw [p1]
    refine pg_ialdN X d_L_law_203 (px_rd_r hsc) (by omega) (by omega) ?_
    refine pg_aload_n X d_L_law_204 rfl ?_
    refine pg_iload X d_L_law_205 rfl ?_
    refine pg_iconst X (2) d_L_law_207 (by decide) ?_
    refine pg_iadd X d_L_law_208 ?_
    rw [p2]
    refine pg_ialdN X d_L_law_209 (px_rd_r hsc) (by omega) (by omega) ?_
    refine pg_aload_n X d_L_law_210 rfl ?_
    refine pg_iload X d_L_law_211 rfl ?_
    refine pg_iconst X (3) d_L_law_213 (by decide) ?_
    refine pg_iadd X d_L_law_214 ?_
    rw [p3]
    refine pg_ialdN X d_L_law_215 (px_rd_r hsc) (by omega) (by omega) ?_
    refine pg_if_eq X d_L_law_216 (fun c1 => ?_) (fun c1 => ?_)
    · exact absurd c1 hb
    refine pg_iconst X (1) d_L_law_219 (by decide) ?_
    refine pg_goto X d_L_law_220 ?_
    refine pz_V (ci := 4) (As := [_, _, _]) X d_L_law_224 (cw_91 hG) (iw_91 hG) (vw_91 hG) (fun r h => by rw [hG.2] at h; cases h; rfl) rfl rfl (Nat.le_of_ble_eq_true rfl) (by rw [hR]; exact ⟨by decide, by decide⟩) (by decide) (by first | omega | (dsimp only [px_rt, px_rm]; omega)) (by first | omega | (dsimp only [px_rt, px_rm]; omega)) (px_rd_of (RM.o hM1)) (mod _ (fun b π2 hp T2 => ?_))
    obtain ⟨h, w, wt, μ, ta, o, wd, ht, nt, nd, tl, nw, Rx2, hc0, hb0⟩ := T2
    have hM := Rx2.2.2.1
    have ho := Rx2.2.2.2.1
    have R2 : RL z zm zo π2 := ⟨h, w, wt, μ, ta, o, wd, ht, nt, nd, tl, nw, Rx2⟩
    refine pg_istore6 X d_L_law_227 ?_
    refine pg_aload_n X d_L_law_229 rfl ?_
    refine pz_V (ci := 4) (As := []) X d_L_law_230 (cw_92 hG) (iw_92 hG) (vw_92 hG) (fun r h => by rw [hG.2] at h; cases h; rfl) rfl rfl (Nat.le_of_ble_eq_true rfl) (by rw [hR]; exact ⟨by decide, by decide⟩) (by decide) (by first | omega | (dsimp only [px_rt, px_rm]; omega)) (by first | omega | (dsimp only [px_rt, px_rm]; omega)) (px_rd_of (RM.o hM)) (t_M_thrown A hM ?_)
    rw [hc0]
    refine pg_iload X d_L_law_233 rfl ?_
    refine pg_icmp_eq X d_L_law_235 (fun c1 => ?_) (fun c1 => ?_)
    rotate_left
    · exact absurd rfl c1
    refine pg_iload X d_L_law_240 rfl ?_
    refine pg_if_ne X d_L_law_242 (fun c2 => ?_) (fun c2 => ?_)
    · skip
      refine pg_goto X d_L_law_264 ?_
      exact pg_room (by first | omega | (dsimp only [px_rt, px_rm]; omega)) (by first | omega | (dsimp only [px_rt, px_rm]; omega)) (kk _ _ π2 R2)
    have ho0 := hb0 b rfl c2
    refine pg_aload_n X d_L_law_245 rfl ?_
    refine pg_iconst X (0) d_L_law_246 (by decide) ?_
    refine pg_lald X d_L_law_247 (px_rd_of ho) in01 ?_
    change px_G Γ G Q true _ _ _ _ [.long (o 0)] π2
    rw [ho0]
    refine pg_iload X d_L_law_248 rfl ?_
    refine pg_if_eq X d_L_law_250 (fun c4 => ?_) (fun c4 => ?_)
    · subst c4
      rw [show ((0 : Int32).toInt64 : Int64) = 0 from rfl]
      refine pg_lconst X (0) d_L_law_257 (by decide) ?_
      refine pg_lcmp X d_L_law_258 ?_
      rw [cmp_0]
      refine pg_if_eq X d_L_law_259 (fun c3 => ?_) (fun c3 => ?_)
      rotate_left
      · exact absurd rfl c3
      refine pg_goto X d_L_law_264 ?_
      exact pg_room (by first | omega | (dsimp only [px_rt, px_rm]; omega)) (by first | omega | (dsimp only [px_rt, px_rm]; omega)) (kk _ _ π2 R2)
    · rcases hp with hp | hp
      · exact absurd hp c4
      · subst hp
        rw [show ((1 : Int32).toInt64 : Int64) = 1 from rfl]
        refine pg_lconst X (1) d_L_law_253 (by decide) ?_
        refine pg_goto X d_L_law_254 ?_
        refine pg_lcmp X d_L_law_258 ?_
        rw [cmp_0]
        refine pg_if_eq X d_L_law_259 (fun c3 => ?_) (fun c3 => ?_)
        rotate_left
        · exact absurd rfl c3
        refine pg_goto X d_L_law_264 ?_
        exact pg_room (by first | omega | (dsimp only [px_rt, px_rm]; omega)) (by first | omega | (dsimp only [px_rt, px_rm]; omega)) (kk _ _ π2 R2)
theorem law_thing (X : px_X Γ G code "VisitorStepsLaw") (A : GA G) (Hc : CAT G) (hfl : FL Γ.l) (hR : Γ.R = room_1) (Rl : RL z zm zo π) (hsc : G.ρ sa = some (.inl (.int, N, .inl f))) (hi : i + 4 < N) (hN : N < 2 ^ 31) (hc : nc + 2 ≤ Γ.R.cells) (hs : ns + 12 ≤ Γ.R.slots) (kk : ∀ x5 x6 π', RL z zm zo π' → px_G Γ G Q true (nc + 2) (ns + 12) 1409 [some (.ref sa), some (.ref z), some (.ref zm), some (.ref zo), some (.int (nI i)), x5, x6] [] π') : px_G Γ G Q true nc ns 267 [some (.ref sa), some (.ref z), some (.ref zm), some (.ref zo), some (.int (nI i)), x5, x6] [] π := by
  have hG := A.1
  have p1 : ∀ i, nI i + 1 = nI (i + 1) := nI_1
  have p2 : ∀ i, nI i + 2 = nI (i + 2) := fun i => nI_add i 2
  have p3 : ∀ i, nI i + 3 = nI (i + 3) := fun i => nI_add i 3
  have p4 : ∀ i, nI i + 4 = nI (i + 4) := fun i => nI_add i 4
  obtain ⟨h, w, wt, μ, ta, o, wd, ht, nt, nd, tl, nw, Rx⟩ := Rl
  refine pg_aload_n X d_L_law_267 rfl ?_
  refine pg_aload_n X d_L_law_268 rfl ?_
  refine pg_iload X d_L_law_269 rfl ?_
  refine pg_iconst X (1) d_L_law_271 (by decide) ?_
  refine pg_iadd X d_L_law_272 ?_
  rw [p1]
  refine pg_ialdN X d_L_law_273 (px_rd_r hsc) (by omega) (by omega) ?_
  refine pg_aload_n X d_L_law_274 rfl ?_
  refine pg_iload X d_L_law_275 rfl ?_
  refine pg_iconst X (2) d_L_law_277 (by decide) ?_
  refine pg_iadd X d_L_law_278 ?_
  rw [p2]
  refine pg_ialdN X d_L_law_279 (px_rd_r hsc) (by omega) (by omega) ?_
  refine pg_aload_n X d_L_law_280 rfl ?_
  refine pg_iload X d_L_law_281 rfl ?_
  refine pg_iconst X (3) d_L_law_283 (by decide) ?_
  refine pg_iadd X d_L_law_284 ?_
  rw [p3]
  refine pg_ialdN X d_L_law_285 (px_rd_r hsc) (by omega) (by omega) ?_
  refine pg_aload_n X d_L_law_286 rfl ?_
  refine pg_iload X d_L_law_287 rfl ?_
  refine pg_iconst X (4) d_L_law_289 (by decide) ?_
  refine pg_iadd X d_L_law_290 ?_
  rw [p4]
  refine pg_ialdN X d_L_law_291 (px_rd_r hsc) (by omega) (by omega) ?_
  refine pg_aload_n X d_L_law_292 rfl ?_
  refine pz_SH (As := [_, _, _, _, _, _]) X d_L_law_293 (cw_96 hG) (sw_96 hG) rfl rfl (Nat.le_of_ble_eq_true rfl) (by rw [hR]; exact ⟨by decide, by decide⟩) (by decide) (by first | omega | (dsimp only [px_rt, px_rm]; omega)) (by first | omega | (dsimp only [px_rt, px_rm]; omega)) (op_thing A hfl Hc Rx (fun c π1 M1 => ?_))
  obtain ⟨⟨μ1, hM1⟩, mod⟩ := M1
  refine pg_istore5 X d_L_law_296 ?_
  refine pg_aload_n X d_L_law_298 rfl ?_
  refine pg_aload_n X d_L_law_299 rfl ?_
  refine pg_iload X d_L_law_300 rfl ?_
  refine pg_iconst X (1) d_L_law_302 (by decide) ?_
  refine pg_iadd X d_L_law_303 ?_
  rw [p1]
  refine pg_ialdN X d_L_law_304 (px_rd_r hsc) (by omega) (by omega) ?_
  refine pg_aload_n X d_L_law_305 rfl ?_
  refine pg_iload X d_L_law_306 rfl ?_
  refine pg_iconst X (2) d_L_law_308 (by decide) ?_
  refine pg_iadd X d_L_law_309 ?_
  rw [p2]
  refine pg_ialdN X d_L_law_310 (px_rd_r hsc) (by omega) (by omega) ?_
  refine pg_aload_n X d_L_law_311 rfl ?_
  refine pg_iload X d_L_law_312 rfl ?_
  refine pg_iconst X (3) d_L_law_314 (by decide) ?_
  refine pg_iadd X d_L_law_315 ?_
  rw [p3]
  refine pg_ialdN X d_L_law_316 (px_rd_r hsc) (by omega) (by omega) ?_
  refine pg_aload_n X d_L_law_317 rfl ?_
  refine pg_iload X d_L_law_318 rfl ?_
  refine pg_iconst X (4) d_L_law_320 (by decide) ?_
  refine pg_iadd X d_L_law_321 ?_
  rw [p4]
  refine pg_ialdN X d_L_law_322 (px_rd_r hsc) (by omega) (by omega) ?_
  refine pz_V (ci := 4) (As := [_, _, _, _]) X d_L_law_323 (cw_99 hG) (iw_99 hG) (vw_99 hG) (fun r h => by rw [hG.2] at h; cases h; rfl) rfl rfl (Nat.le_of_ble_eq_true rfl) (by rw [hR]; exact ⟨by decide, by decide⟩) (by decide) (by first | omega | (dsimp only [px_rt, px_rm]; omega)) (by first | omega | (dsimp only [px_rt, px_rm]; omega)) (px_rd_of (RM.o hM1)) (mod _ (fun b π2 hp T2 => ?_))
  obtain ⟨h, w, wt, μ, ta, o, wd, ht, nt, nd, tl, nw, Rx2, hc0, hb0⟩ := T2
  have hM := Rx2.2.2.1
  have ho := Rx2.2.2.2.1
  have R2 : RL z zm zo π2 := ⟨h, w, wt, μ, ta, o, wd, ht, nt, nd, tl, nw, Rx2⟩
  refine pg_istore6 X d_L_law_326 ?_
  refine pg_aload_n X d_L_law_328 rfl ?_
  refine pz_V (ci := 4) (As := []) X d_L_law_329 (cw_92 hG) (iw_92 hG) (vw_92 hG) (fun r h => by rw [hG.2] at h; cases h; rfl) rfl rfl (Nat.le_of_ble_eq_true rfl) (by rw [hR]; exact ⟨by decide, by decide⟩) (by decide) (by first | omega | (dsimp only [px_rt, px_rm]; omega)) (by first | omega | (dsimp only [px_rt, px_rm]; omega)) (px_rd_of (RM.o hM)) (t_M_thrown A hM ?_)
  rw [hc0]
  refine pg_iload X d_L_law_332 rfl ?_
  refine pg_icmp_eq X d_L_law_334 (fun c1 => ?_) (fun c1 => ?_)
  rotate_left
  · exact absurd rfl c1
  refine pg_iload X d_L_law_339 rfl ?_
  refine pg_if_ne X d_L_law_341 (fun c2 => ?_) (fun c2 => ?_)
  · skip
    refine pg_goto X d_L_law_356 ?_
    exact pg_room (by first | omega | (dsimp only [px_rt, px_rm]; omega)) (by first | omega | (dsimp only [px_rt, px_rm]; omega)) (kk _ _ π2 R2)
  have ho0 := hb0 b rfl c2
  refine pg_aload_n X d_L_law_344 rfl ?_
  refine pg_iconst X (0) d_L_law_345 (by decide) ?_
  refine pg_lald X d_L_law_346 (px_rd_of ho) in01 ?_
  change px_G Γ G Q true _ _ _ _ [.long (o 0)] π2
  rw [ho0]
  refine pg_iload X d_L_law_347 rfl ?_
  refine pg_i2l X d_L_law_349 ?_
  refine pg_lcmp X d_L_law_350 ?_
  rw [cmp_0]
  refine pg_if_eq X d_L_law_351 (fun c3 => ?_) (fun c3 => ?_)
  rotate_left
  · exact absurd rfl c3
  refine pg_goto X d_L_law_356 ?_
  exact pg_room (by first | omega | (dsimp only [px_rt, px_rm]; omega)) (by first | omega | (dsimp only [px_rt, px_rm]; omega)) (kk _ _ π2 R2)
theorem law_door (X : px_X Γ G code "VisitorStepsLaw") (A : GA G) (Hc : CAT G) (hfl : FL Γ.l) (hR : Γ.R = room_1) (Rl : RL z zm zo π) (hsc : G.ρ sa = some (.inl (.int, N, .inl f))) (hi : i + 4 < N) (hN : N < 2 ^ 31) (hc : nc + 2 ≤ Γ.R.cells) (hs : ns + 12 ≤ Γ.R.slots) (kk : ∀ x5 x6 π', RL z zm zo π' → px_G Γ G Q true (nc + 2) (ns + 12) 1409 [some (.ref sa), some (.ref z), some (.ref zm), some (.ref zo), some (.int (nI i)), x5, x6] [] π') : px_G Γ G Q true nc ns 359 [some (.ref sa), some (.ref z), some (.ref zm), some (.ref zo), some (.int (nI i)), x5, x6] [] π := by
  have hG := A.1
  have p1 : ∀ i, nI i + 1 = nI (i + 1) := nI_1
  have p2 : ∀ i, nI i + 2 = nI (i + 2) := fun i => nI_add i 2
  have p3 : ∀ i, nI i + 3 = nI (i + 3) := fun i => nI_add i 3
  have p4 : ∀ i, nI i + 4 = nI (i + 4) := fun i => nI_add i 4
  obtain ⟨h, w, wt, μ, ta, o, wd, ht, nt, nd, tl, nw, Rx⟩ := Rl
  refine pg_aload_n X d_L_law_359 rfl ?_
  refine pg_aload_n X d_L_law_360 rfl ?_
  refine pg_iload X d_L_law_361 rfl ?_
  refine pg_iconst X (1) d_L_law_363 (by decide) ?_
  refine pg_iadd X d_L_law_364 ?_
  rw [p1]
  refine pg_ialdN X d_L_law_365 (px_rd_r hsc) (by omega) (by omega) ?_
  refine pg_aload_n X d_L_law_366 rfl ?_
  refine pg_iload X d_L_law_367 rfl ?_
  refine pg_iconst X (2) d_L_law_369 (by decide) ?_
  refine pg_iadd X d_L_law_370 ?_
  rw [p2]
  refine pg_ialdN X d_L_law_371 (px_rd_r hsc) (by omega) (by omega) ?_
  refine pg_aload_n X d_L_law_372 rfl ?_
  refine pz_SH (As := [_, _, _, _]) X d_L_law_373 (cw_100 hG) (sw_100 hG) rfl rfl (Nat.le_of_ble_eq_true rfl) (by rw [hR]; exact ⟨by decide, by decide⟩) (by decide) (by first | omega | (dsimp only [px_rt, px_rm]; omega)) (by first | omega | (dsimp only [px_rt, px_rm]; omega)) (op_door A hfl Hc Rx (fun c π1 M1 => ?_))
  obtain ⟨⟨μ1, hM1⟩, mod⟩ := M1
  refine pg_istore5 X d_L_law_376 ?_
  refine pg_aload_n X d_L_law_378 rfl ?_
  refine pg_aload_n X d_L_law_379 rfl ?_
  refine pg_iload X d_L_law_380 rfl ?_
  refine pg_iconst X (1) d_L_law_382 (by decide) ?_
  refine pg_iadd X d_L_law_383 ?_
  rw [p1]
  refine pg_ialdN X d_L_law_384 (px_rd_r hsc) (by omega) (by omega) ?_
  refine pg_aload_n X d_L_law_385 rfl ?_
  refine pg_iload X d_L_law_386 rfl ?_
  refine pg_iconst X (2) d_L_law_388 (by decide) ?_
  refine pg_iadd X d_L_law_389 ?_
  rw [p2]
  refine pg_ialdN X d_L_law_390 (px_rd_r hsc) (by omega) (by omega) ?_
  refine pz_V (ci := 4) (As := [_, _]) X d_L_law_391 (cw_103 hG) (iw_103 hG) (vw_103 hG) (fun r h => by rw [hG.2] at h; cases h; rfl) rfl rfl (Nat.le_of_ble_eq_true rfl) (by rw [hR]; exact ⟨by decide, by decide⟩) (by decide) (by first | omega | (dsimp only [px_rt, px_rm]; omega)) (by first | omega | (dsimp only [px_rt, px_rm]; omega)) (px_rd_of (RM.o hM1)) (mod _ (fun b π2 hp T2 => ?_))
  obtain ⟨h, w, wt, μ, ta, o, wd, ht, nt, nd, tl, nw, Rx2, hc0, hb0⟩ := T2
  have hM := Rx2.2.2.1
  have ho := Rx2.2.2.2.1
  have R2 : RL z zm zo π2 := ⟨h, w, wt, μ, ta, o, wd, ht, nt, nd, tl, nw, Rx2⟩
  refine pg_istore6 X d_L_law_394 ?_
  refine pg_aload_n X d_L_law_396 rfl ?_
  refine pz_V (ci := 4) (As := []) X d_L_law_397 (cw_92 hG) (iw_92 hG) (vw_92 hG) (fun r h => by rw [hG.2] at h; cases h; rfl) rfl rfl (Nat.le_of_ble_eq_true rfl) (by rw [hR]; exact ⟨by decide, by decide⟩) (by decide) (by first | omega | (dsimp only [px_rt, px_rm]; omega)) (by first | omega | (dsimp only [px_rt, px_rm]; omega)) (px_rd_of (RM.o hM)) (t_M_thrown A hM ?_)
  rw [hc0]
  refine pg_iload X d_L_law_400 rfl ?_
  refine pg_icmp_eq X d_L_law_402 (fun c1 => ?_) (fun c1 => ?_)
  rotate_left
  · exact absurd rfl c1
  refine pg_iload X d_L_law_407 rfl ?_
  refine pg_if_ne X d_L_law_409 (fun c2 => ?_) (fun c2 => ?_)
  · skip
    refine pg_goto X d_L_law_424 ?_
    exact pg_room (by first | omega | (dsimp only [px_rt, px_rm]; omega)) (by first | omega | (dsimp only [px_rt, px_rm]; omega)) (kk _ _ π2 R2)
  have ho0 := hb0 b rfl c2
  refine pg_aload_n X d_L_law_412 rfl ?_
  refine pg_iconst X (0) d_L_law_413 (by decide) ?_
  refine pg_lald X d_L_law_414 (px_rd_of ho) in01 ?_
  change px_G Γ G Q true _ _ _ _ [.long (o 0)] π2
  rw [ho0]
  refine pg_iload X d_L_law_415 rfl ?_
  refine pg_i2l X d_L_law_417 ?_
  refine pg_lcmp X d_L_law_418 ?_
  rw [cmp_0]
  refine pg_if_eq X d_L_law_419 (fun c3 => ?_) (fun c3 => ?_)
  rotate_left
  · exact absurd rfl c3
  refine pg_goto X d_L_law_424 ?_
  exact pg_room (by first | omega | (dsimp only [px_rt, px_rm]; omega)) (by first | omega | (dsimp only [px_rt, px_rm]; omega)) (kk _ _ π2 R2)
theorem law_room (X : px_X Γ G code "VisitorStepsLaw") (A : GA G) (Hc : CAT G) (hfl : FL Γ.l) (hR : Γ.R = room_1) (Rl : RL z zm zo π) (hsc : G.ρ sa = some (.inl (.int, N, .inl f))) (hi : i + 4 < N) (hN : N < 2 ^ 31) (hc : nc + 2 ≤ Γ.R.cells) (hs : ns + 12 ≤ Γ.R.slots) (kk : ∀ x5 x6 π', RL z zm zo π' → px_G Γ G Q true (nc + 2) (ns + 12) 1409 [some (.ref sa), some (.ref z), some (.ref zm), some (.ref zo), some (.int (nI i)), x5, x6] [] π') : px_G Γ G Q true nc ns 427 [some (.ref sa), some (.ref z), some (.ref zm), some (.ref zo), some (.int (nI i)), x5, x6] [] π := by
  have hG := A.1
  have p1 : ∀ i, nI i + 1 = nI (i + 1) := nI_1
  have p2 : ∀ i, nI i + 2 = nI (i + 2) := fun i => nI_add i 2
  have p3 : ∀ i, nI i + 3 = nI (i + 3) := fun i => nI_add i 3
  have p4 : ∀ i, nI i + 4 = nI (i + 4) := fun i => nI_add i 4
  obtain ⟨h, w, wt, μ, ta, o, wd, ht, nt, nd, tl, nw, Rx⟩ := Rl
  refine pg_aload_n X d_L_law_427 rfl ?_
  refine pg_aload_n X d_L_law_428 rfl ?_
  refine pg_iload X d_L_law_429 rfl ?_
  refine pg_iconst X (1) d_L_law_431 (by decide) ?_
  refine pg_iadd X d_L_law_432 ?_
  rw [p1]
  refine pg_ialdN X d_L_law_433 (px_rd_r hsc) (by omega) (by omega) ?_
  refine pg_aload_n X d_L_law_434 rfl ?_
  refine pz_SH (As := [_, _, _]) X d_L_law_435 (cw_104 hG) (sw_104 hG) rfl rfl (Nat.le_of_ble_eq_true rfl) (by rw [hR]; exact ⟨by decide, by decide⟩) (by decide) (by first | omega | (dsimp only [px_rt, px_rm]; omega)) (by first | omega | (dsimp only [px_rt, px_rm]; omega)) (op_room A hfl Hc Rx (fun c π1 M1 => ?_))
  obtain ⟨⟨μ1, hM1⟩, mod⟩ := M1
  refine pg_istore5 X d_L_law_438 ?_
  refine pg_aload_n X d_L_law_440 rfl ?_
  refine pg_aload_n X d_L_law_441 rfl ?_
  refine pg_iload X d_L_law_442 rfl ?_
  refine pg_iconst X (1) d_L_law_444 (by decide) ?_
  refine pg_iadd X d_L_law_445 ?_
  rw [p1]
  refine pg_ialdN X d_L_law_446 (px_rd_r hsc) (by omega) (by omega) ?_
  refine pz_V (ci := 4) (As := [_]) X d_L_law_447 (cw_107 hG) (iw_107 hG) (vw_107 hG) (fun r h => by rw [hG.2] at h; cases h; rfl) rfl rfl (Nat.le_of_ble_eq_true rfl) (by rw [hR]; exact ⟨by decide, by decide⟩) (by decide) (by first | omega | (dsimp only [px_rt, px_rm]; omega)) (by first | omega | (dsimp only [px_rt, px_rm]; omega)) (px_rd_of (RM.o hM1)) (mod _ (fun b π2 hp T2 => ?_))
  obtain ⟨h, w, wt, μ, ta, o, wd, ht, nt, nd, tl, nw, Rx2, hc0, hb0⟩ := T2
  have hM := Rx2.2.2.1
  have ho := Rx2.2.2.2.1
  have R2 : RL z zm zo π2 := ⟨h, w, wt, μ, ta, o, wd, ht, nt, nd, tl, nw, Rx2⟩
  refine pg_istore6 X d_L_law_450 ?_
  refine pg_aload_n X d_L_law_452 rfl ?_
  refine pz_V (ci := 4) (As := []) X d_L_law_453 (cw_92 hG) (iw_92 hG) (vw_92 hG) (fun r h => by rw [hG.2] at h; cases h; rfl) rfl rfl (Nat.le_of_ble_eq_true rfl) (by rw [hR]; exact ⟨by decide, by decide⟩) (by decide) (by first | omega | (dsimp only [px_rt, px_rm]; omega)) (by first | omega | (dsimp only [px_rt, px_rm]; omega)) (px_rd_of (RM.o hM)) (t_M_thrown A hM ?_)
  rw [hc0]
  refine pg_iload X d_L_law_456 rfl ?_
  refine pg_icmp_eq X d_L_law_458 (fun c1 => ?_) (fun c1 => ?_)
  rotate_left
  · exact absurd rfl c1
  refine pg_iload X d_L_law_463 rfl ?_
  refine pg_if_ne X d_L_law_465 (fun c2 => ?_) (fun c2 => ?_)
  · skip
    refine pg_goto X d_L_law_480 ?_
    exact pg_room (by first | omega | (dsimp only [px_rt, px_rm]; omega)) (by first | omega | (dsimp only [px_rt, px_rm]; omega)) (kk _ _ π2 R2)
  have ho0 := hb0 b rfl c2
  refine pg_aload_n X d_L_law_468 rfl ?_
  refine pg_iconst X (0) d_L_law_469 (by decide) ?_
  refine pg_lald X d_L_law_470 (px_rd_of ho) in01 ?_
  change px_G Γ G Q true _ _ _ _ [.long (o 0)] π2
  rw [ho0]
  refine pg_iload X d_L_law_471 rfl ?_
  refine pg_i2l X d_L_law_473 ?_
  refine pg_lcmp X d_L_law_474 ?_
  rw [cmp_0]
  refine pg_if_eq X d_L_law_475 (fun c3 => ?_) (fun c3 => ?_)
  rotate_left
  · exact absurd rfl c3
  refine pg_goto X d_L_law_480 ?_
  exact pg_room (by first | omega | (dsimp only [px_rt, px_rm]; omega)) (by first | omega | (dsimp only [px_rt, px_rm]; omega)) (kk _ _ π2 R2)
theorem law_patience (X : px_X Γ G code "VisitorStepsLaw") (A : GA G) (Hc : CAT G) (hfl : FL Γ.l) (hR : Γ.R = room_1) (Rl : RL z zm zo π) (hsc : G.ρ sa = some (.inl (.int, N, .inl f))) (hi : i + 4 < N) (hN : N < 2 ^ 31) (hc : nc + 2 ≤ Γ.R.cells) (hs : ns + 12 ≤ Γ.R.slots) (kk : ∀ x5 x6 π', RL z zm zo π' → px_G Γ G Q true (nc + 2) (ns + 12) 1409 [some (.ref sa), some (.ref z), some (.ref zm), some (.ref zo), some (.int (nI i)), x5, x6] [] π') : px_G Γ G Q true nc ns 483 [some (.ref sa), some (.ref z), some (.ref zm), some (.ref zo), some (.int (nI i)), x5, x6] [] π := by
  have hG := A.1
  have p1 : ∀ i, nI i + 1 = nI (i + 1) := nI_1
  have p2 : ∀ i, nI i + 2 = nI (i + 2) := fun i => nI_add i 2
  have p3 : ∀ i, nI i + 3 = nI (i + 3) := fun i => nI_add i 3
  have p4 : ∀ i, nI i + 4 = nI (i + 4) := fun i => nI_add i 4
  obtain ⟨h, w, wt, μ, ta, o, wd, ht, nt, nd, tl, nw, Rx⟩ := Rl
  refine pg_aload_n X d_L_law_483 rfl ?_
  refine pg_aload_n X d_L_law_484 rfl ?_
  refine pg_iload X d_L_law_485 rfl ?_
  refine pg_iconst X (1) d_L_law_487 (by decide) ?_
  refine pg_iadd X d_L_law_488 ?_
  rw [p1]
  refine pg_ialdN X d_L_law_489 (px_rd_r hsc) (by omega) (by omega) ?_
  refine pg_aload_n X d_L_law_490 rfl ?_
  refine pz_SH (As := [_, _, _]) X d_L_law_491 (cw_108 hG) (sw_108 hG) rfl rfl (Nat.le_of_ble_eq_true rfl) (by rw [hR]; exact ⟨by decide, by decide⟩) (by decide) (by first | omega | (dsimp only [px_rt, px_rm]; omega)) (by first | omega | (dsimp only [px_rt, px_rm]; omega)) (op_patience A hfl Hc Rx (fun c π1 M1 => ?_))
  obtain ⟨⟨μ1, hM1⟩, mod⟩ := M1
  refine pg_istore5 X d_L_law_494 ?_
  refine pg_aload_n X d_L_law_496 rfl ?_
  refine pg_aload_n X d_L_law_497 rfl ?_
  refine pg_iload X d_L_law_498 rfl ?_
  refine pg_iconst X (1) d_L_law_500 (by decide) ?_
  refine pg_iadd X d_L_law_501 ?_
  rw [p1]
  refine pg_ialdN X d_L_law_502 (px_rd_r hsc) (by omega) (by omega) ?_
  refine pz_V (ci := 4) (As := [_]) X d_L_law_503 (cw_110 hG) (iw_110 hG) (vw_110 hG) (fun r h => by rw [hG.2] at h; cases h; rfl) rfl rfl (Nat.le_of_ble_eq_true rfl) (by rw [hR]; exact ⟨by decide, by decide⟩) (by decide) (by first | omega | (dsimp only [px_rt, px_rm]; omega)) (by first | omega | (dsimp only [px_rt, px_rm]; omega)) (px_rd_of (RM.o hM1)) (mod _ (fun b π2 hp T2 => ?_))
  obtain ⟨h, w, wt, μ, ta, o, wd, ht, nt, nd, tl, nw, Rx2, hc0, hb0⟩ := T2
  have hM := Rx2.2.2.1
  have ho := Rx2.2.2.2.1
  have R2 : RL z zm zo π2 := ⟨h, w, wt, μ, ta, o, wd, ht, nt, nd, tl, nw, Rx2⟩
  refine pg_istore6 X d_L_law_506 ?_
  refine pg_aload_n X d_L_law_508 rfl ?_
  refine pz_V (ci := 4) (As := []) X d_L_law_509 (cw_92 hG) (iw_92 hG) (vw_92 hG) (fun r h => by rw [hG.2] at h; cases h; rfl) rfl rfl (Nat.le_of_ble_eq_true rfl) (by rw [hR]; exact ⟨by decide, by decide⟩) (by decide) (by first | omega | (dsimp only [px_rt, px_rm]; omega)) (by first | omega | (dsimp only [px_rt, px_rm]; omega)) (px_rd_of (RM.o hM)) (t_M_thrown A hM ?_)
  rw [hc0]
  refine pg_iload X d_L_law_512 rfl ?_
  refine pg_icmp_eq X d_L_law_514 (fun c1 => ?_) (fun c1 => ?_)
  rotate_left
  · exact absurd rfl c1
  refine pg_iload X d_L_law_519 rfl ?_
  refine pg_if_ne X d_L_law_521 (fun c2 => ?_) (fun c2 => ?_)
  · skip
    refine pg_goto X d_L_law_536 ?_
    exact pg_room (by first | omega | (dsimp only [px_rt, px_rm]; omega)) (by first | omega | (dsimp only [px_rt, px_rm]; omega)) (kk _ _ π2 R2)
  have ho0 := hb0 b rfl c2
  refine pg_aload_n X d_L_law_524 rfl ?_
  refine pg_iconst X (0) d_L_law_525 (by decide) ?_
  refine pg_lald X d_L_law_526 (px_rd_of ho) in01 ?_
  change px_G Γ G Q true _ _ _ _ [.long (o 0)] π2
  rw [ho0]
  refine pg_iload X d_L_law_527 rfl ?_
  refine pg_i2l X d_L_law_529 ?_
  refine pg_lcmp X d_L_law_530 ?_
  rw [cmp_0]
  refine pg_if_eq X d_L_law_531 (fun c3 => ?_) (fun c3 => ?_)
  rotate_left
  · exact absurd rfl c3
  refine pg_goto X d_L_law_536 ?_
  exact pg_room (by first | omega | (dsimp only [px_rt, px_rm]; omega)) (by first | omega | (dsimp only [px_rt, px_rm]; omega)) (kk _ _ π2 R2)
theorem law_arrives (X : px_X Γ G code "VisitorStepsLaw") (A : GA G) (Hc : CAT G) (hfl : FL Γ.l) (hR : Γ.R = room_1) (Rl : RL z zm zo π) (hsc : G.ρ sa = some (.inl (.int, N, .inl f))) (hi : i + 4 < N) (hN : N < 2 ^ 31) (hc : nc + 2 ≤ Γ.R.cells) (hs : ns + 12 ≤ Γ.R.slots) (kk : ∀ x5 x6 π', RL z zm zo π' → px_G Γ G Q true (nc + 2) (ns + 12) 1409 [some (.ref sa), some (.ref z), some (.ref zm), some (.ref zo), some (.int (nI i)), x5, x6] [] π') : px_G Γ G Q true nc ns 539 [some (.ref sa), some (.ref z), some (.ref zm), some (.ref zo), some (.int (nI i)), x5, x6] [] π := by
  have hG := A.1
  have p1 : ∀ i, nI i + 1 = nI (i + 1) := nI_1
  have p2 : ∀ i, nI i + 2 = nI (i + 2) := fun i => nI_add i 2
  have p3 : ∀ i, nI i + 3 = nI (i + 3) := fun i => nI_add i 3
  have p4 : ∀ i, nI i + 4 = nI (i + 4) := fun i => nI_add i 4
  obtain ⟨h, w, wt, μ, ta, o, wd, ht, nt, nd, tl, nw, Rx⟩ := Rl
  refine pg_aload_n X d_L_law_539 rfl ?_
  refine pg_aload_n X d_L_law_540 rfl ?_
  refine pg_iload X d_L_law_541 rfl ?_
  refine pg_iconst X (1) d_L_law_543 (by decide) ?_
  refine pg_iadd X d_L_law_544 ?_
  rw [p1]
  refine pg_ialdN X d_L_law_545 (px_rd_r hsc) (by omega) (by omega) ?_
  refine pg_aload_n X d_L_law_546 rfl ?_
  refine pg_iload X d_L_law_547 rfl ?_
  refine pg_iconst X (2) d_L_law_549 (by decide) ?_
  refine pg_iadd X d_L_law_550 ?_
  rw [p2]
  refine pg_ialdN X d_L_law_551 (px_rd_r hsc) (by omega) (by omega) ?_
  refine pg_aload_n X d_L_law_552 rfl ?_
  refine pg_iload X d_L_law_553 rfl ?_
  refine pg_iconst X (3) d_L_law_555 (by decide) ?_
  refine pg_iadd X d_L_law_556 ?_
  rw [p3]
  refine pg_ialdN X d_L_law_557 (px_rd_r hsc) (by omega) (by omega) ?_
  refine pg_aload_n X d_L_law_558 rfl ?_
  refine pz_SH (As := [_, _, _, _, _]) X d_L_law_559 (cw_111 hG) (sw_111 hG) rfl rfl (Nat.le_of_ble_eq_true rfl) (by rw [hR]; exact ⟨by decide, by decide⟩) (by decide) (by first | omega | (dsimp only [px_rt, px_rm]; omega)) (by first | omega | (dsimp only [px_rt, px_rm]; omega)) (op_arrives A hfl Hc Rx (fun c π1 M1 => ?_))
  obtain ⟨⟨μ1, hM1⟩, mod⟩ := M1
  refine pg_istore5 X d_L_law_562 ?_
  refine pg_aload_n X d_L_law_564 rfl ?_
  refine pg_aload_n X d_L_law_565 rfl ?_
  refine pg_iload X d_L_law_566 rfl ?_
  refine pg_iconst X (1) d_L_law_568 (by decide) ?_
  refine pg_iadd X d_L_law_569 ?_
  rw [p1]
  refine pg_ialdN X d_L_law_570 (px_rd_r hsc) (by omega) (by omega) ?_
  refine pg_aload_n X d_L_law_571 rfl ?_
  refine pg_iload X d_L_law_572 rfl ?_
  refine pg_iconst X (2) d_L_law_574 (by decide) ?_
  refine pg_iadd X d_L_law_575 ?_
  rw [p2]
  refine pg_ialdN X d_L_law_576 (px_rd_r hsc) (by omega) (by omega) ?_
  refine pg_aload_n X d_L_law_577 rfl ?_
  refine pg_iload X d_L_law_578 rfl ?_
  refine pg_iconst X (3) d_L_law_580 (by decide) ?_
  refine pg_iadd X d_L_law_581 ?_
  rw [p3]
  refine pg_ialdN X d_L_law_582 (px_rd_r hsc) (by omega) (by omega) ?_
  refine pz_V (ci := 4) (As := [_, _, _]) X d_L_law_583 (cw_114 hG) (iw_114 hG) (vw_114 hG) (fun r h => by rw [hG.2] at h; cases h; rfl) rfl rfl (Nat.le_of_ble_eq_true rfl) (by rw [hR]; exact ⟨by decide, by decide⟩) (by decide) (by first | omega | (dsimp only [px_rt, px_rm]; omega)) (by first | omega | (dsimp only [px_rt, px_rm]; omega)) (px_rd_of (RM.o hM1)) (mod _ (fun b π2 hp T2 => ?_))
  obtain ⟨h, w, wt, μ, ta, o, wd, ht, nt, nd, tl, nw, Rx2, hc0, hb0⟩ := T2
  have hM := Rx2.2.2.1
  have ho := Rx2.2.2.2.1
  have R2 : RL z zm zo π2 := ⟨h, w, wt, μ, ta, o, wd, ht, nt, nd, tl, nw, Rx2⟩
  refine pg_istore6 X d_L_law_586 ?_
  refine pg_aload_n X d_L_law_588 rfl ?_
  refine pz_V (ci := 4) (As := []) X d_L_law_589 (cw_92 hG) (iw_92 hG) (vw_92 hG) (fun r h => by rw [hG.2] at h; cases h; rfl) rfl rfl (Nat.le_of_ble_eq_true rfl) (by rw [hR]; exact ⟨by decide, by decide⟩) (by decide) (by first | omega | (dsimp only [px_rt, px_rm]; omega)) (by first | omega | (dsimp only [px_rt, px_rm]; omega)) (px_rd_of (RM.o hM)) (t_M_thrown A hM ?_)
  rw [hc0]
  refine pg_iload X d_L_law_592 rfl ?_
  refine pg_icmp_eq X d_L_law_594 (fun c1 => ?_) (fun c1 => ?_)
  rotate_left
  · exact absurd rfl c1
  refine pg_iload X d_L_law_599 rfl ?_
  refine pg_if_ne X d_L_law_601 (fun c2 => ?_) (fun c2 => ?_)
  · skip
    refine pg_goto X d_L_law_616 ?_
    exact pg_room (by first | omega | (dsimp only [px_rt, px_rm]; omega)) (by first | omega | (dsimp only [px_rt, px_rm]; omega)) (kk _ _ π2 R2)
  have ho0 := hb0 b rfl c2
  refine pg_aload_n X d_L_law_604 rfl ?_
  refine pg_iconst X (0) d_L_law_605 (by decide) ?_
  refine pg_lald X d_L_law_606 (px_rd_of ho) in01 ?_
  change px_G Γ G Q true _ _ _ _ [.long (o 0)] π2
  rw [ho0]
  refine pg_iload X d_L_law_607 rfl ?_
  refine pg_i2l X d_L_law_609 ?_
  refine pg_lcmp X d_L_law_610 ?_
  rw [cmp_0]
  refine pg_if_eq X d_L_law_611 (fun c3 => ?_) (fun c3 => ?_)
  rotate_left
  · exact absurd rfl c3
  refine pg_goto X d_L_law_616 ?_
  exact pg_room (by first | omega | (dsimp only [px_rt, px_rm]; omega)) (by first | omega | (dsimp only [px_rt, px_rm]; omega)) (kk _ _ π2 R2)
theorem law_run (X : px_X Γ G code "VisitorStepsLaw") (A : GA G) (Hc : CAT G) (hfl : FL Γ.l) (hR : Γ.R = room_1) (Rl : RL z zm zo π) (hsc : G.ρ sa = some (.inl (.int, N, .inl f))) (hi : i + 4 < N) (hN : N < 2 ^ 31) (hc : nc + 2 ≤ Γ.R.cells) (hs : ns + 12 ≤ Γ.R.slots) (kk : ∀ x5 x6 π', RL z zm zo π' → px_G Γ G Q true (nc + 2) (ns + 12) 1409 [some (.ref sa), some (.ref z), some (.ref zm), some (.ref zo), some (.int (nI i)), x5, x6] [] π') : px_G Γ G Q true nc ns 619 [some (.ref sa), some (.ref z), some (.ref zm), some (.ref zo), some (.int (nI i)), x5, x6] [] π := by
  have hG := A.1
  have p1 : ∀ i, nI i + 1 = nI (i + 1) := nI_1
  have p2 : ∀ i, nI i + 2 = nI (i + 2) := fun i => nI_add i 2
  have p3 : ∀ i, nI i + 3 = nI (i + 3) := fun i => nI_add i 3
  have p4 : ∀ i, nI i + 4 = nI (i + 4) := fun i => nI_add i 4
  obtain ⟨h, w, wt, μ, ta, o, wd, ht, nt, nd, tl, nw, Rx⟩ := Rl
  refine pg_aload_n X d_L_law_619 rfl ?_
  refine pg_aload_n X d_L_law_620 rfl ?_
  refine pg_iload X d_L_law_621 rfl ?_
  refine pg_iconst X (1) d_L_law_623 (by decide) ?_
  refine pg_iadd X d_L_law_624 ?_
  rw [p1]
  refine pg_ialdN X d_L_law_625 (px_rd_r hsc) (by omega) (by omega) ?_
  refine pg_aload_n X d_L_law_626 rfl ?_
  refine pz_SH (As := [_, _, _]) X d_L_law_627 (cw_115 hG) (sw_115 hG) rfl rfl (Nat.le_of_ble_eq_true rfl) (by rw [hR]; exact ⟨by decide, by decide⟩) (by decide) (by first | omega | (dsimp only [px_rt, px_rm]; omega)) (by first | omega | (dsimp only [px_rt, px_rm]; omega)) (op_run A hfl Hc Rx (fun c π1 M1 => ?_))
  obtain ⟨⟨μ1, hM1⟩, mod⟩ := M1
  refine pg_istore5 X d_L_law_630 ?_
  refine pg_aload_n X d_L_law_632 rfl ?_
  refine pg_aload_n X d_L_law_633 rfl ?_
  refine pg_iload X d_L_law_634 rfl ?_
  refine pg_iconst X (1) d_L_law_636 (by decide) ?_
  refine pg_iadd X d_L_law_637 ?_
  rw [p1]
  refine pg_ialdN X d_L_law_638 (px_rd_r hsc) (by omega) (by omega) ?_
  refine pz_V (ci := 4) (As := [_]) X d_L_law_639 (cw_117 hG) (iw_117 hG) (vw_117 hG) (fun r h => by rw [hG.2] at h; cases h; rfl) rfl rfl (Nat.le_of_ble_eq_true rfl) (by rw [hR]; exact ⟨by decide, by decide⟩) (by decide) (by first | omega | (dsimp only [px_rt, px_rm]; omega)) (by first | omega | (dsimp only [px_rt, px_rm]; omega)) (px_rd_of (RM.o hM1)) (mod _ (fun b π2 hp T2 => ?_))
  obtain ⟨h, w, wt, μ, ta, o, wd, ht, nt, nd, tl, nw, Rx2, hc0, hb0⟩ := T2
  have hM := Rx2.2.2.1
  have ho := Rx2.2.2.2.1
  have R2 : RL z zm zo π2 := ⟨h, w, wt, μ, ta, o, wd, ht, nt, nd, tl, nw, Rx2⟩
  refine pg_istore6 X d_L_law_642 ?_
  refine pg_aload_n X d_L_law_644 rfl ?_
  refine pz_V (ci := 4) (As := []) X d_L_law_645 (cw_92 hG) (iw_92 hG) (vw_92 hG) (fun r h => by rw [hG.2] at h; cases h; rfl) rfl rfl (Nat.le_of_ble_eq_true rfl) (by rw [hR]; exact ⟨by decide, by decide⟩) (by decide) (by first | omega | (dsimp only [px_rt, px_rm]; omega)) (by first | omega | (dsimp only [px_rt, px_rm]; omega)) (px_rd_of (RM.o hM)) (t_M_thrown A hM ?_)
  rw [hc0]
  refine pg_iload X d_L_law_648 rfl ?_
  refine pg_icmp_eq X d_L_law_650 (fun c1 => ?_) (fun c1 => ?_)
  rotate_left
  · exact absurd rfl c1
  refine pg_iload X d_L_law_655 rfl ?_
  refine pg_if_ne X d_L_law_657 (fun c2 => ?_) (fun c2 => ?_)
  · skip
    refine pg_goto X d_L_law_672 ?_
    exact pg_room (by first | omega | (dsimp only [px_rt, px_rm]; omega)) (by first | omega | (dsimp only [px_rt, px_rm]; omega)) (kk _ _ π2 R2)
  have ho0 := hb0 b rfl c2
  refine pg_aload_n X d_L_law_660 rfl ?_
  refine pg_iconst X (0) d_L_law_661 (by decide) ?_
  refine pg_lald X d_L_law_662 (px_rd_of ho) in01 ?_
  change px_G Γ G Q true _ _ _ _ [.long (o 0)] π2
  rw [ho0]
  refine pg_iload X d_L_law_663 rfl ?_
  refine pg_i2l X d_L_law_665 ?_
  refine pg_lcmp X d_L_law_666 ?_
  rw [cmp_0]
  refine pg_if_eq X d_L_law_667 (fun c3 => ?_) (fun c3 => ?_)
  rotate_left
  · exact absurd rfl c3
  refine pg_goto X d_L_law_672 ?_
  exact pg_room (by first | omega | (dsimp only [px_rt, px_rm]; omega)) (by first | omega | (dsimp only [px_rt, px_rm]; omega)) (kk _ _ π2 R2)
theorem law_at (X : px_X Γ G code "VisitorStepsLaw") (A : GA G) (Hc : CAT G) (hfl : FL Γ.l) (hR : Γ.R = room_1) (Rl : RL z zm zo π) (hsc : G.ρ sa = some (.inl (.int, N, .inl f))) (hi : i + 4 < N) (hN : N < 2 ^ 31) (hc : nc + 2 ≤ Γ.R.cells) (hs : ns + 12 ≤ Γ.R.slots) (kk : ∀ x5 x6 π', RL z zm zo π' → px_G Γ G Q true (nc + 2) (ns + 12) 1409 [some (.ref sa), some (.ref z), some (.ref zm), some (.ref zo), some (.int (nI i)), x5, x6] [] π') : px_G Γ G Q true nc ns 675 [some (.ref sa), some (.ref z), some (.ref zm), some (.ref zo), some (.int (nI i)), x5, x6] [] π := by
  have hG := A.1
  have p1 : ∀ i, nI i + 1 = nI (i + 1) := nI_1
  have p2 : ∀ i, nI i + 2 = nI (i + 2) := fun i => nI_add i 2
  have p3 : ∀ i, nI i + 3 = nI (i + 3) := fun i => nI_add i 3
  have p4 : ∀ i, nI i + 4 = nI (i + 4) := fun i => nI_add i 4
  obtain ⟨h, w, wt, μ, ta, o, wd, ht, nt, nd, tl, nw, Rx⟩ := Rl
  refine pg_aload_n X d_L_law_675 rfl ?_
  refine pg_aload_n X d_L_law_676 rfl ?_
  refine pg_iload X d_L_law_677 rfl ?_
  refine pg_iconst X (1) d_L_law_679 (by decide) ?_
  refine pg_iadd X d_L_law_680 ?_
  rw [p1]
  refine pg_ialdN X d_L_law_681 (px_rd_r hsc) (by omega) (by omega) ?_
  refine pg_aload_n X d_L_law_682 rfl ?_
  refine pg_iload X d_L_law_683 rfl ?_
  refine pg_iconst X (2) d_L_law_685 (by decide) ?_
  refine pg_iadd X d_L_law_686 ?_
  rw [p2]
  refine pg_ialdN X d_L_law_687 (px_rd_r hsc) (by omega) (by omega) ?_
  refine pg_aload_n X d_L_law_688 rfl ?_
  refine pz_SH (As := [_, _, _, _]) X d_L_law_689 (cw_118 hG) (sw_118 hG) rfl rfl (Nat.le_of_ble_eq_true rfl) (by rw [hR]; exact ⟨by decide, by decide⟩) (by decide) (by first | omega | (dsimp only [px_rt, px_rm]; omega)) (by first | omega | (dsimp only [px_rt, px_rm]; omega)) (op_at A hfl Hc Rx (fun c π1 M1 => ?_))
  obtain ⟨⟨μ1, hM1⟩, mod⟩ := M1
  refine pg_istore5 X d_L_law_692 ?_
  refine pg_aload_n X d_L_law_694 rfl ?_
  refine pg_aload_n X d_L_law_695 rfl ?_
  refine pg_iload X d_L_law_696 rfl ?_
  refine pg_iconst X (1) d_L_law_698 (by decide) ?_
  refine pg_iadd X d_L_law_699 ?_
  rw [p1]
  refine pg_ialdN X d_L_law_700 (px_rd_r hsc) (by omega) (by omega) ?_
  refine pg_aload_n X d_L_law_701 rfl ?_
  refine pg_iload X d_L_law_702 rfl ?_
  refine pg_iconst X (2) d_L_law_704 (by decide) ?_
  refine pg_iadd X d_L_law_705 ?_
  rw [p2]
  refine pg_ialdN X d_L_law_706 (px_rd_r hsc) (by omega) (by omega) ?_
  refine pz_V (ci := 4) (As := [_, _]) X d_L_law_707 (cw_120 hG) (iw_120 hG) (vw_120 hG) (fun r h => by rw [hG.2] at h; cases h; rfl) rfl rfl (Nat.le_of_ble_eq_true rfl) (by rw [hR]; exact ⟨by decide, by decide⟩) (by decide) (by first | omega | (dsimp only [px_rt, px_rm]; omega)) (by first | omega | (dsimp only [px_rt, px_rm]; omega)) (px_rd_of (RM.o hM1)) (mod _ (fun b π2 hp T2 => ?_))
  obtain ⟨h, w, wt, μ, ta, o, wd, ht, nt, nd, tl, nw, Rx2, hc0, hb0⟩ := T2
  have hM := Rx2.2.2.1
  have ho := Rx2.2.2.2.1
  have R2 : RL z zm zo π2 := ⟨h, w, wt, μ, ta, o, wd, ht, nt, nd, tl, nw, Rx2⟩
  refine pg_istore6 X d_L_law_710 ?_
  refine pg_aload_n X d_L_law_712 rfl ?_
  refine pz_V (ci := 4) (As := []) X d_L_law_713 (cw_92 hG) (iw_92 hG) (vw_92 hG) (fun r h => by rw [hG.2] at h; cases h; rfl) rfl rfl (Nat.le_of_ble_eq_true rfl) (by rw [hR]; exact ⟨by decide, by decide⟩) (by decide) (by first | omega | (dsimp only [px_rt, px_rm]; omega)) (by first | omega | (dsimp only [px_rt, px_rm]; omega)) (px_rd_of (RM.o hM)) (t_M_thrown A hM ?_)
  rw [hc0]
  refine pg_iload X d_L_law_716 rfl ?_
  refine pg_icmp_eq X d_L_law_718 (fun c1 => ?_) (fun c1 => ?_)
  rotate_left
  · exact absurd rfl c1
  refine pg_iload X d_L_law_723 rfl ?_
  refine pg_if_ne X d_L_law_725 (fun c2 => ?_) (fun c2 => ?_)
  · skip
    refine pg_goto X d_L_law_740 ?_
    exact pg_room (by first | omega | (dsimp only [px_rt, px_rm]; omega)) (by first | omega | (dsimp only [px_rt, px_rm]; omega)) (kk _ _ π2 R2)
  have ho0 := hb0 b rfl c2
  refine pg_aload_n X d_L_law_728 rfl ?_
  refine pg_iconst X (0) d_L_law_729 (by decide) ?_
  refine pg_lald X d_L_law_730 (px_rd_of ho) in01 ?_
  change px_G Γ G Q true _ _ _ _ [.long (o 0)] π2
  rw [ho0]
  refine pg_iload X d_L_law_731 rfl ?_
  refine pg_i2l X d_L_law_733 ?_
  refine pg_lcmp X d_L_law_734 ?_
  rw [cmp_0]
  refine pg_if_eq X d_L_law_735 (fun c3 => ?_) (fun c3 => ?_)
  rotate_left
  · exact absurd rfl c3
  refine pg_goto X d_L_law_740 ?_
  exact pg_room (by first | omega | (dsimp only [px_rt, px_rm]; omega)) (by first | omega | (dsimp only [px_rt, px_rm]; omega)) (kk _ _ π2 R2)
theorem law_about (X : px_X Γ G code "VisitorStepsLaw") (A : GA G) (Hc : CAT G) (hfl : FL Γ.l) (hR : Γ.R = room_1) (Rl : RL z zm zo π) (hsc : G.ρ sa = some (.inl (.int, N, .inl f))) (hi : i + 4 < N) (hN : N < 2 ^ 31) (hc : nc + 2 ≤ Γ.R.cells) (hs : ns + 12 ≤ Γ.R.slots) (kk : ∀ x5 x6 π', RL z zm zo π' → px_G Γ G Q true (nc + 2) (ns + 12) 1409 [some (.ref sa), some (.ref z), some (.ref zm), some (.ref zo), some (.int (nI i)), x5, x6] [] π') : px_G Γ G Q true nc ns 743 [some (.ref sa), some (.ref z), some (.ref zm), some (.ref zo), some (.int (nI i)), x5, x6] [] π := by
  have hG := A.1
  have p1 : ∀ i, nI i + 1 = nI (i + 1) := nI_1
  have p2 : ∀ i, nI i + 2 = nI (i + 2) := fun i => nI_add i 2
  have p3 : ∀ i, nI i + 3 = nI (i + 3) := fun i => nI_add i 3
  have p4 : ∀ i, nI i + 4 = nI (i + 4) := fun i => nI_add i 4
  obtain ⟨h, w, wt, μ, ta, o, wd, ht, nt, nd, tl, nw, Rx⟩ := Rl
  refine pg_aload_n X d_L_law_743 rfl ?_
  refine pg_aload_n X d_L_law_744 rfl ?_
  refine pg_iload X d_L_law_745 rfl ?_
  refine pg_iconst X (1) d_L_law_747 (by decide) ?_
  refine pg_iadd X d_L_law_748 ?_
  rw [p1]
  refine pg_ialdN X d_L_law_749 (px_rd_r hsc) (by omega) (by omega) ?_
  refine pg_aload_n X d_L_law_750 rfl ?_
  refine pg_iload X d_L_law_751 rfl ?_
  refine pg_iconst X (2) d_L_law_753 (by decide) ?_
  refine pg_iadd X d_L_law_754 ?_
  rw [p2]
  refine pg_ialdN X d_L_law_755 (px_rd_r hsc) (by omega) (by omega) ?_
  refine pg_aload_n X d_L_law_756 rfl ?_
  refine pz_SH (As := [_, _, _, _]) X d_L_law_757 (cw_121 hG) (sw_121 hG) rfl rfl (Nat.le_of_ble_eq_true rfl) (by rw [hR]; exact ⟨by decide, by decide⟩) (by decide) (by first | omega | (dsimp only [px_rt, px_rm]; omega)) (by first | omega | (dsimp only [px_rt, px_rm]; omega)) (op_about A hfl Hc Rx (fun c π1 M1 => ?_))
  obtain ⟨⟨μ1, hM1⟩, mod⟩ := M1
  refine pg_istore5 X d_L_law_760 ?_
  refine pg_aload_n X d_L_law_762 rfl ?_
  refine pg_aload_n X d_L_law_763 rfl ?_
  refine pg_iload X d_L_law_764 rfl ?_
  refine pg_iconst X (1) d_L_law_766 (by decide) ?_
  refine pg_iadd X d_L_law_767 ?_
  rw [p1]
  refine pg_ialdN X d_L_law_768 (px_rd_r hsc) (by omega) (by omega) ?_
  refine pg_aload_n X d_L_law_769 rfl ?_
  refine pg_iload X d_L_law_770 rfl ?_
  refine pg_iconst X (2) d_L_law_772 (by decide) ?_
  refine pg_iadd X d_L_law_773 ?_
  rw [p2]
  refine pg_ialdN X d_L_law_774 (px_rd_r hsc) (by omega) (by omega) ?_
  refine pz_V (ci := 4) (As := [_, _]) X d_L_law_775 (cw_123 hG) (iw_123 hG) (vw_123 hG) (fun r h => by rw [hG.2] at h; cases h; rfl) rfl rfl (Nat.le_of_ble_eq_true rfl) (by rw [hR]; exact ⟨by decide, by decide⟩) (by decide) (by first | omega | (dsimp only [px_rt, px_rm]; omega)) (by first | omega | (dsimp only [px_rt, px_rm]; omega)) (px_rd_of (RM.o hM1)) (mod _ (fun b π2 hp T2 => ?_))
  obtain ⟨h, w, wt, μ, ta, o, wd, ht, nt, nd, tl, nw, Rx2, hc0, hb0⟩ := T2
  have hM := Rx2.2.2.1
  have ho := Rx2.2.2.2.1
  have R2 : RL z zm zo π2 := ⟨h, w, wt, μ, ta, o, wd, ht, nt, nd, tl, nw, Rx2⟩
  refine pg_istore6 X d_L_law_778 ?_
  refine pg_aload_n X d_L_law_780 rfl ?_
  refine pz_V (ci := 4) (As := []) X d_L_law_781 (cw_92 hG) (iw_92 hG) (vw_92 hG) (fun r h => by rw [hG.2] at h; cases h; rfl) rfl rfl (Nat.le_of_ble_eq_true rfl) (by rw [hR]; exact ⟨by decide, by decide⟩) (by decide) (by first | omega | (dsimp only [px_rt, px_rm]; omega)) (by first | omega | (dsimp only [px_rt, px_rm]; omega)) (px_rd_of (RM.o hM)) (t_M_thrown A hM ?_)
  rw [hc0]
  refine pg_iload X d_L_law_784 rfl ?_
  refine pg_icmp_eq X d_L_law_786 (fun c1 => ?_) (fun c1 => ?_)
  rotate_left
  · exact absurd rfl c1
  refine pg_iload X d_L_law_791 rfl ?_
  refine pg_if_ne X d_L_law_793 (fun c2 => ?_) (fun c2 => ?_)
  · skip
    refine pg_goto X d_L_law_808 ?_
    exact pg_room (by first | omega | (dsimp only [px_rt, px_rm]; omega)) (by first | omega | (dsimp only [px_rt, px_rm]; omega)) (kk _ _ π2 R2)
  have ho0 := hb0 b rfl c2
  refine pg_aload_n X d_L_law_796 rfl ?_
  refine pg_iconst X (0) d_L_law_797 (by decide) ?_
  refine pg_lald X d_L_law_798 (px_rd_of ho) in01 ?_
  change px_G Γ G Q true _ _ _ _ [.long (o 0)] π2
  rw [ho0]
  refine pg_iload X d_L_law_799 rfl ?_
  refine pg_i2l X d_L_law_801 ?_
  refine pg_lcmp X d_L_law_802 ?_
  rw [cmp_0]
  refine pg_if_eq X d_L_law_803 (fun c3 => ?_) (fun c3 => ?_)
  rotate_left
  · exact absurd rfl c3
  refine pg_goto X d_L_law_808 ?_
  exact pg_room (by first | omega | (dsimp only [px_rt, px_rm]; omega)) (by first | omega | (dsimp only [px_rt, px_rm]; omega)) (kk _ _ π2 R2)
theorem law_crowd (X : px_X Γ G code "VisitorStepsLaw") (A : GA G) (Hc : CAT G) (hfl : FL Γ.l) (hR : Γ.R = room_1) (Rl : RL z zm zo π) (hsc : G.ρ sa = some (.inl (.int, N, .inl f))) (hi : i + 4 < N) (hN : N < 2 ^ 31) (hc : nc + 2 ≤ Γ.R.cells) (hs : ns + 12 ≤ Γ.R.slots) (kk : ∀ x5 x6 π', RL z zm zo π' → px_G Γ G Q true (nc + 2) (ns + 12) 1409 [some (.ref sa), some (.ref z), some (.ref zm), some (.ref zo), some (.int (nI i)), x5, x6] [] π') : px_G Γ G Q true nc ns 811 [some (.ref sa), some (.ref z), some (.ref zm), some (.ref zo), some (.int (nI i)), x5, x6] [] π := by
  have hG := A.1
  have p1 : ∀ i, nI i + 1 = nI (i + 1) := nI_1
  have p2 : ∀ i, nI i + 2 = nI (i + 2) := fun i => nI_add i 2
  have p3 : ∀ i, nI i + 3 = nI (i + 3) := fun i => nI_add i 3
  have p4 : ∀ i, nI i + 4 = nI (i + 4) := fun i => nI_add i 4
  obtain ⟨h, w, wt, μ, ta, o, wd, ht, nt, nd, tl, nw, Rx⟩ := Rl
  refine pg_aload_n X d_L_law_811 rfl ?_
  refine pg_aload_n X d_L_law_812 rfl ?_
  refine pg_iload X d_L_law_813 rfl ?_
  refine pg_iconst X (1) d_L_law_815 (by decide) ?_
  refine pg_iadd X d_L_law_816 ?_
  rw [p1]
  refine pg_ialdN X d_L_law_817 (px_rd_r hsc) (by omega) (by omega) ?_
  refine pg_aload_n X d_L_law_818 rfl ?_
  refine pg_iload X d_L_law_819 rfl ?_
  refine pg_iconst X (2) d_L_law_821 (by decide) ?_
  refine pg_iadd X d_L_law_822 ?_
  rw [p2]
  refine pg_ialdN X d_L_law_823 (px_rd_r hsc) (by omega) (by omega) ?_
  refine pg_aload_n X d_L_law_824 rfl ?_
  refine pz_SH (As := [_, _, _, _]) X d_L_law_825 (cw_124 hG) (sw_124 hG) rfl rfl (Nat.le_of_ble_eq_true rfl) (by rw [hR]; exact ⟨by decide, by decide⟩) (by decide) (by first | omega | (dsimp only [px_rt, px_rm]; omega)) (by first | omega | (dsimp only [px_rt, px_rm]; omega)) (op_crowd A hfl Hc Rx (fun c π1 M1 => ?_))
  obtain ⟨⟨μ1, hM1⟩, mod⟩ := M1
  refine pg_istore5 X d_L_law_828 ?_
  refine pg_aload_n X d_L_law_830 rfl ?_
  refine pg_aload_n X d_L_law_831 rfl ?_
  refine pg_iload X d_L_law_832 rfl ?_
  refine pg_iconst X (1) d_L_law_834 (by decide) ?_
  refine pg_iadd X d_L_law_835 ?_
  rw [p1]
  refine pg_ialdN X d_L_law_836 (px_rd_r hsc) (by omega) (by omega) ?_
  refine pg_aload_n X d_L_law_837 rfl ?_
  refine pg_iload X d_L_law_838 rfl ?_
  refine pg_iconst X (2) d_L_law_840 (by decide) ?_
  refine pg_iadd X d_L_law_841 ?_
  rw [p2]
  refine pg_ialdN X d_L_law_842 (px_rd_r hsc) (by omega) (by omega) ?_
  refine pz_V (ci := 4) (As := [_, _]) X d_L_law_843 (cw_126 hG) (iw_126 hG) (vw_126 hG) (fun r h => by rw [hG.2] at h; cases h; rfl) rfl rfl (Nat.le_of_ble_eq_true rfl) (by rw [hR]; exact ⟨by decide, by decide⟩) (by decide) (by first | omega | (dsimp only [px_rt, px_rm]; omega)) (by first | omega | (dsimp only [px_rt, px_rm]; omega)) (px_rd_of (RM.o hM1)) (mod _ (fun b π2 hp T2 => ?_))
  obtain ⟨h, w, wt, μ, ta, o, wd, ht, nt, nd, tl, nw, Rx2, hc0, hb0⟩ := T2
  have hM := Rx2.2.2.1
  have ho := Rx2.2.2.2.1
  have R2 : RL z zm zo π2 := ⟨h, w, wt, μ, ta, o, wd, ht, nt, nd, tl, nw, Rx2⟩
  refine pg_istore6 X d_L_law_846 ?_
  refine pg_aload_n X d_L_law_848 rfl ?_
  refine pz_V (ci := 4) (As := []) X d_L_law_849 (cw_92 hG) (iw_92 hG) (vw_92 hG) (fun r h => by rw [hG.2] at h; cases h; rfl) rfl rfl (Nat.le_of_ble_eq_true rfl) (by rw [hR]; exact ⟨by decide, by decide⟩) (by decide) (by first | omega | (dsimp only [px_rt, px_rm]; omega)) (by first | omega | (dsimp only [px_rt, px_rm]; omega)) (px_rd_of (RM.o hM)) (t_M_thrown A hM ?_)
  rw [hc0]
  refine pg_iload X d_L_law_852 rfl ?_
  refine pg_icmp_eq X d_L_law_854 (fun c1 => ?_) (fun c1 => ?_)
  rotate_left
  · exact absurd rfl c1
  refine pg_iload X d_L_law_859 rfl ?_
  refine pg_if_ne X d_L_law_861 (fun c2 => ?_) (fun c2 => ?_)
  · skip
    refine pg_goto X d_L_law_876 ?_
    exact pg_room (by first | omega | (dsimp only [px_rt, px_rm]; omega)) (by first | omega | (dsimp only [px_rt, px_rm]; omega)) (kk _ _ π2 R2)
  have ho0 := hb0 b rfl c2
  refine pg_aload_n X d_L_law_864 rfl ?_
  refine pg_iconst X (0) d_L_law_865 (by decide) ?_
  refine pg_lald X d_L_law_866 (px_rd_of ho) in01 ?_
  change px_G Γ G Q true _ _ _ _ [.long (o 0)] π2
  rw [ho0]
  refine pg_iload X d_L_law_867 rfl ?_
  refine pg_i2l X d_L_law_869 ?_
  refine pg_lcmp X d_L_law_870 ?_
  rw [cmp_0]
  refine pg_if_eq X d_L_law_871 (fun c3 => ?_) (fun c3 => ?_)
  rotate_left
  · exact absurd rfl c3
  refine pg_goto X d_L_law_876 ?_
  exact pg_room (by first | omega | (dsimp only [px_rt, px_rm]; omega)) (by first | omega | (dsimp only [px_rt, px_rm]; omega)) (kk _ _ π2 R2)
theorem law_stayed (X : px_X Γ G code "VisitorStepsLaw") (A : GA G) (Hc : CAT G) (hfl : FL Γ.l) (hR : Γ.R = room_1) (Rl : RL z zm zo π) (hsc : G.ρ sa = some (.inl (.int, N, .inl f))) (hi : i + 4 < N) (hN : N < 2 ^ 31) (hc : nc + 2 ≤ Γ.R.cells) (hs : ns + 12 ≤ Γ.R.slots) (kk : ∀ x5 x6 π', RL z zm zo π' → px_G Γ G Q true (nc + 2) (ns + 12) 1409 [some (.ref sa), some (.ref z), some (.ref zm), some (.ref zo), some (.int (nI i)), x5, x6] [] π') : px_G Γ G Q true nc ns 879 [some (.ref sa), some (.ref z), some (.ref zm), some (.ref zo), some (.int (nI i)), x5, x6] [] π := by
  have hG := A.1
  have p1 : ∀ i, nI i + 1 = nI (i + 1) := nI_1
  have p2 : ∀ i, nI i + 2 = nI (i + 2) := fun i => nI_add i 2
  have p3 : ∀ i, nI i + 3 = nI (i + 3) := fun i => nI_add i 3
  have p4 : ∀ i, nI i + 4 = nI (i + 4) := fun i => nI_add i 4
  obtain ⟨h, w, wt, μ, ta, o, wd, ht, nt, nd, tl, nw, Rx⟩ := Rl
  refine pg_aload_n X d_L_law_879 rfl ?_
  refine pg_aload_n X d_L_law_880 rfl ?_
  refine pg_iload X d_L_law_881 rfl ?_
  refine pg_iconst X (1) d_L_law_883 (by decide) ?_
  refine pg_iadd X d_L_law_884 ?_
  rw [p1]
  refine pg_ialdN X d_L_law_885 (px_rd_r hsc) (by omega) (by omega) ?_
  refine pg_aload_n X d_L_law_886 rfl ?_
  refine pg_iload X d_L_law_887 rfl ?_
  refine pg_iconst X (2) d_L_law_889 (by decide) ?_
  refine pg_iadd X d_L_law_890 ?_
  rw [p2]
  refine pg_ialdN X d_L_law_891 (px_rd_r hsc) (by omega) (by omega) ?_
  refine pg_aload_n X d_L_law_892 rfl ?_
  refine pz_SH (As := [_, _, _, _]) X d_L_law_893 (cw_127 hG) (sw_127 hG) rfl rfl (Nat.le_of_ble_eq_true rfl) (by rw [hR]; exact ⟨by decide, by decide⟩) (by decide) (by first | omega | (dsimp only [px_rt, px_rm]; omega)) (by first | omega | (dsimp only [px_rt, px_rm]; omega)) (op_stayed A hfl Hc Rx (fun c π1 M1 => ?_))
  obtain ⟨⟨μ1, hM1⟩, mod⟩ := M1
  refine pg_istore5 X d_L_law_896 ?_
  refine pg_aload_n X d_L_law_898 rfl ?_
  refine pg_aload_n X d_L_law_899 rfl ?_
  refine pg_iload X d_L_law_900 rfl ?_
  refine pg_iconst X (1) d_L_law_902 (by decide) ?_
  refine pg_iadd X d_L_law_903 ?_
  rw [p1]
  refine pg_ialdN X d_L_law_904 (px_rd_r hsc) (by omega) (by omega) ?_
  refine pg_aload_n X d_L_law_905 rfl ?_
  refine pg_iload X d_L_law_906 rfl ?_
  refine pg_iconst X (2) d_L_law_908 (by decide) ?_
  refine pg_iadd X d_L_law_909 ?_
  rw [p2]
  refine pg_ialdN X d_L_law_910 (px_rd_r hsc) (by omega) (by omega) ?_
  refine pz_V (ci := 4) (As := [_, _]) X d_L_law_911 (cw_129 hG) (iw_129 hG) (vw_129 hG) (fun r h => by rw [hG.2] at h; cases h; rfl) rfl rfl (Nat.le_of_ble_eq_true rfl) (by rw [hR]; exact ⟨by decide, by decide⟩) (by decide) (by first | omega | (dsimp only [px_rt, px_rm]; omega)) (by first | omega | (dsimp only [px_rt, px_rm]; omega)) (px_rd_of (RM.o hM1)) (mod _ (fun b π2 hp T2 => ?_))
  obtain ⟨h, w, wt, μ, ta, o, wd, ht, nt, nd, tl, nw, Rx2, hc0, hb0⟩ := T2
  have hM := Rx2.2.2.1
  have ho := Rx2.2.2.2.1
  have R2 : RL z zm zo π2 := ⟨h, w, wt, μ, ta, o, wd, ht, nt, nd, tl, nw, Rx2⟩
  refine pg_istore6 X d_L_law_914 ?_
  refine pg_aload_n X d_L_law_916 rfl ?_
  refine pz_V (ci := 4) (As := []) X d_L_law_917 (cw_92 hG) (iw_92 hG) (vw_92 hG) (fun r h => by rw [hG.2] at h; cases h; rfl) rfl rfl (Nat.le_of_ble_eq_true rfl) (by rw [hR]; exact ⟨by decide, by decide⟩) (by decide) (by first | omega | (dsimp only [px_rt, px_rm]; omega)) (by first | omega | (dsimp only [px_rt, px_rm]; omega)) (px_rd_of (RM.o hM)) (t_M_thrown A hM ?_)
  rw [hc0]
  refine pg_iload X d_L_law_920 rfl ?_
  refine pg_icmp_eq X d_L_law_922 (fun c1 => ?_) (fun c1 => ?_)
  rotate_left
  · exact absurd rfl c1
  refine pg_iload X d_L_law_927 rfl ?_
  refine pg_if_ne X d_L_law_929 (fun c2 => ?_) (fun c2 => ?_)
  · skip
    refine pg_goto X d_L_law_944 ?_
    exact pg_room (by first | omega | (dsimp only [px_rt, px_rm]; omega)) (by first | omega | (dsimp only [px_rt, px_rm]; omega)) (kk _ _ π2 R2)
  have ho0 := hb0 b rfl c2
  refine pg_aload_n X d_L_law_932 rfl ?_
  refine pg_iconst X (0) d_L_law_933 (by decide) ?_
  refine pg_lald X d_L_law_934 (px_rd_of ho) in01 ?_
  change px_G Γ G Q true _ _ _ _ [.long (o 0)] π2
  rw [ho0]
  refine pg_iload X d_L_law_935 rfl ?_
  refine pg_i2l X d_L_law_937 ?_
  refine pg_lcmp X d_L_law_938 ?_
  rw [cmp_0]
  refine pg_if_eq X d_L_law_939 (fun c3 => ?_) (fun c3 => ?_)
  rotate_left
  · exact absurd rfl c3
  refine pg_goto X d_L_law_944 ?_
  exact pg_room (by first | omega | (dsimp only [px_rt, px_rm]; omega)) (by first | omega | (dsimp only [px_rt, px_rm]; omega)) (kk _ _ π2 R2)
theorem law_through (X : px_X Γ G code "VisitorStepsLaw") (A : GA G) (Hc : CAT G) (hfl : FL Γ.l) (hR : Γ.R = room_1) (Rl : RL z zm zo π) (hsc : G.ρ sa = some (.inl (.int, N, .inl f))) (hi : i + 4 < N) (hN : N < 2 ^ 31) (hc : nc + 2 ≤ Γ.R.cells) (hs : ns + 12 ≤ Γ.R.slots) (kk : ∀ x5 x6 π', RL z zm zo π' → px_G Γ G Q true (nc + 2) (ns + 12) 1409 [some (.ref sa), some (.ref z), some (.ref zm), some (.ref zo), some (.int (nI i)), x5, x6] [] π') : px_G Γ G Q true nc ns 947 [some (.ref sa), some (.ref z), some (.ref zm), some (.ref zo), some (.int (nI i)), x5, x6] [] π := by
  have hG := A.1
  have p1 : ∀ i, nI i + 1 = nI (i + 1) := nI_1
  have p2 : ∀ i, nI i + 2 = nI (i + 2) := fun i => nI_add i 2
  have p3 : ∀ i, nI i + 3 = nI (i + 3) := fun i => nI_add i 3
  have p4 : ∀ i, nI i + 4 = nI (i + 4) := fun i => nI_add i 4
  obtain ⟨h, w, wt, μ, ta, o, wd, ht, nt, nd, tl, nw, Rx⟩ := Rl
  by_cases hb : f (i + 2) = 0
  · skip
    refine pg_aload_n X d_L_law_947 rfl ?_
    refine pg_aload_n X d_L_law_948 rfl ?_
    refine pg_iload X d_L_law_949 rfl ?_
    refine pg_iconst X (1) d_L_law_951 (by decide) ?_
    refine pg_iadd X d_L_law_952 ?_
    rw [p1]
    refine pg_ialdN X d_L_law_953 (px_rd_r hsc) (by omega) (by omega) ?_
    refine pg_aload_n X d_L_law_954 rfl ?_
    refine pg_iload X d_L_law_955 rfl ?_
    refine pg_iconst X (2) d_L_law_957 (by decide) ?_
    refine pg_iadd X d_L_law_958 ?_
    rw [p2]
    refine pg_ialdN X d_L_law_959 (px_rd_r hsc) (by omega) (by omega) ?_
    refine pg_if_eq X d_L_law_960 (fun c1 => ?_) (fun c1 => ?_)
    rotate_left
    · exact absurd hb c1
    refine pg_iconst X (0) d_L_law_967 (by decide) ?_
    refine pg_aload_n X d_L_law_968 rfl ?_
    refine pz_SH (As := [_, _, _, _]) X d_L_law_969 (cw_130 hG) (sw_130 hG) rfl rfl (Nat.le_of_ble_eq_true rfl) (by rw [hR]; exact ⟨by decide, by decide⟩) (by decide) (by first | omega | (dsimp only [px_rt, px_rm]; omega)) (by first | omega | (dsimp only [px_rt, px_rm]; omega)) (op_through A hfl Hc Rx (fun c π1 M1 => ?_))
    obtain ⟨⟨μ1, hM1⟩, mod⟩ := M1
    refine pg_istore5 X d_L_law_972 ?_
    refine pg_aload_n X d_L_law_974 rfl ?_
    refine pg_aload_n X d_L_law_975 rfl ?_
    refine pg_iload X d_L_law_976 rfl ?_
    refine pg_iconst X (1) d_L_law_978 (by decide) ?_
    refine pg_iadd X d_L_law_979 ?_
    rw [p1]
    refine pg_ialdN X d_L_law_980 (px_rd_r hsc) (by omega) (by omega) ?_
    refine pg_aload_n X d_L_law_981 rfl ?_
    refine pg_iload X d_L_law_982 rfl ?_
    refine pg_iconst X (2) d_L_law_984 (by decide) ?_
    refine pg_iadd X d_L_law_985 ?_
    rw [p2]
    refine pg_ialdN X d_L_law_986 (px_rd_r hsc) (by omega) (by omega) ?_
    refine pg_if_eq X d_L_law_987 (fun c1 => ?_) (fun c1 => ?_)
    rotate_left
    · exact absurd hb c1
    refine pg_iconst X (0) d_L_law_994 (by decide) ?_
    refine pz_V (ci := 4) (As := [_, _]) X d_L_law_995 (cw_133 hG) (iw_133 hG) (vw_133 hG) (fun r h => by rw [hG.2] at h; cases h; rfl) rfl rfl (Nat.le_of_ble_eq_true rfl) (by rw [hR]; exact ⟨by decide, by decide⟩) (by decide) (by first | omega | (dsimp only [px_rt, px_rm]; omega)) (by first | omega | (dsimp only [px_rt, px_rm]; omega)) (px_rd_of (RM.o hM1)) (mod _ (fun b π2 hp T2 => ?_))
    obtain ⟨h, w, wt, μ, ta, o, wd, ht, nt, nd, tl, nw, Rx2, hc0, hb0⟩ := T2
    have hM := Rx2.2.2.1
    have ho := Rx2.2.2.2.1
    have R2 : RL z zm zo π2 := ⟨h, w, wt, μ, ta, o, wd, ht, nt, nd, tl, nw, Rx2⟩
    refine pg_istore6 X d_L_law_998 ?_
    refine pg_aload_n X d_L_law_1000 rfl ?_
    refine pz_V (ci := 4) (As := []) X d_L_law_1001 (cw_92 hG) (iw_92 hG) (vw_92 hG) (fun r h => by rw [hG.2] at h; cases h; rfl) rfl rfl (Nat.le_of_ble_eq_true rfl) (by rw [hR]; exact ⟨by decide, by decide⟩) (by decide) (by first | omega | (dsimp only [px_rt, px_rm]; omega)) (by first | omega | (dsimp only [px_rt, px_rm]; omega)) (px_rd_of (RM.o hM)) (t_M_thrown A hM ?_)
    rw [hc0]
    refine pg_iload X d_L_law_1004 rfl ?_
    refine pg_icmp_eq X d_L_law_1006 (fun c1 => ?_) (fun c1 => ?_)
    rotate_left
    · exact absurd rfl c1
    refine pg_iload X d_L_law_1011 rfl ?_
    refine pg_if_ne X d_L_law_1013 (fun c2 => ?_) (fun c2 => ?_)
    · skip
      refine pg_goto X d_L_law_1028 ?_
      exact pg_room (by first | omega | (dsimp only [px_rt, px_rm]; omega)) (by first | omega | (dsimp only [px_rt, px_rm]; omega)) (kk _ _ π2 R2)
    have ho0 := hb0 b rfl c2
    refine pg_aload_n X d_L_law_1016 rfl ?_
    refine pg_iconst X (0) d_L_law_1017 (by decide) ?_
    refine pg_lald X d_L_law_1018 (px_rd_of ho) in01 ?_
    change px_G Γ G Q true _ _ _ _ [.long (o 0)] π2
    rw [ho0]
    refine pg_iload X d_L_law_1019 rfl ?_
    refine pg_i2l X d_L_law_1021 ?_
    refine pg_lcmp X d_L_law_1022 ?_
    rw [cmp_0]
    refine pg_if_eq X d_L_law_1023 (fun c3 => ?_) (fun c3 => ?_)
    rotate_left
    · exact absurd rfl c3
    refine pg_goto X d_L_law_1028 ?_
    exact pg_room (by first | omega | (dsimp only [px_rt, px_rm]; omega)) (by first | omega | (dsimp only [px_rt, px_rm]; omega)) (kk _ _ π2 R2)
  · skip
    refine pg_aload_n X d_L_law_947 rfl ?_
    refine pg_aload_n X d_L_law_948 rfl ?_
    refine pg_iload X d_L_law_949 rfl ?_
    refine pg_iconst X (1) d_L_law_951 (by decide) ?_
    refine pg_iadd X d_L_law_952 ?_
    rw [p1]
    refine pg_ialdN X d_L_law_953 (px_rd_r hsc) (by omega) (by omega) ?_
    refine pg_aload_n X d_L_law_954 rfl ?_
    refine pg_iload X d_L_law_955 rfl ?_
    refine pg_iconst X (2) d_L_law_957 (by decide) ?_
    refine pg_iadd X d_L_law_958 ?_
    rw [p2]
    refine pg_ialdN X d_L_law_959 (px_rd_r hsc) (by omega) (by omega) ?_
    refine pg_if_eq X d_L_law_960 (fun c1 => ?_) (fun c1 => ?_)
    · exact absurd c1 hb
    refine pg_iconst X (1) d_L_law_963 (by decide) ?_
    refine pg_goto X d_L_law_964 ?_
    refine pg_aload_n X d_L_law_968 rfl ?_
    refine pz_SH (As := [_, _, _, _]) X d_L_law_969 (cw_130 hG) (sw_130 hG) rfl rfl (Nat.le_of_ble_eq_true rfl) (by rw [hR]; exact ⟨by decide, by decide⟩) (by decide) (by first | omega | (dsimp only [px_rt, px_rm]; omega)) (by first | omega | (dsimp only [px_rt, px_rm]; omega)) (op_through A hfl Hc Rx (fun c π1 M1 => ?_))
    obtain ⟨⟨μ1, hM1⟩, mod⟩ := M1
    refine pg_istore5 X d_L_law_972 ?_
    refine pg_aload_n X d_L_law_974 rfl ?_
    refine pg_aload_n X d_L_law_975 rfl ?_
    refine pg_iload X d_L_law_976 rfl ?_
    refine pg_iconst X (1) d_L_law_978 (by decide) ?_
    refine pg_iadd X d_L_law_979 ?_
    rw [p1]
    refine pg_ialdN X d_L_law_980 (px_rd_r hsc) (by omega) (by omega) ?_
    refine pg_aload_n X d_L_law_981 rfl ?_
    refine pg_iload X d_L_law_982 rfl ?_
    refine pg_iconst X (2) d_L_law_984 (by decide) ?_
    refine pg_iadd X d_L_law_985 ?_
    rw [p2]
    refine pg_ialdN X d_L_law_986 (px_rd_r hsc) (by omega) (by omega) ?_
    refine pg_if_eq X d_L_law_987 (fun c1 => ?_) (fun c1 => ?_)
    · exact absurd c1 hb
    refine pg_iconst X (1) d_L_law_990 (by decide) ?_
    refine pg_goto X d_L_law_991 ?_
    refine pz_V (ci := 4) (As := [_, _]) X d_L_law_995 (cw_133 hG) (iw_133 hG) (vw_133 hG) (fun r h => by rw [hG.2] at h; cases h; rfl) rfl rfl (Nat.le_of_ble_eq_true rfl) (by rw [hR]; exact ⟨by decide, by decide⟩) (by decide) (by first | omega | (dsimp only [px_rt, px_rm]; omega)) (by first | omega | (dsimp only [px_rt, px_rm]; omega)) (px_rd_of (RM.o hM1)) (mod _ (fun b π2 hp T2 => ?_))
    obtain ⟨h, w, wt, μ, ta, o, wd, ht, nt, nd, tl, nw, Rx2, hc0, hb0⟩ := T2
    have hM := Rx2.2.2.1
    have ho := Rx2.2.2.2.1
    have R2 : RL z zm zo π2 := ⟨h, w, wt, μ, ta, o, wd, ht, nt, nd, tl, nw, Rx2⟩
    refine pg_istore6 X d_L_law_998 ?_
    refine pg_aload_n X d_L_law_1000 rfl ?_
    refine pz_V (ci := 4) (As := []) X d_L_law_1001 (cw_92 hG) (iw_92 hG) (vw_92 hG) (fun r h => by rw [hG.2] at h; cases h; rfl) rfl rfl (Nat.le_of_ble_eq_true rfl) (by rw [hR]; exact ⟨by decide, by decide⟩) (by decide) (by first | omega | (dsimp only [px_rt, px_rm]; omega)) (by first | omega | (dsimp only [px_rt, px_rm]; omega)) (px_rd_of (RM.o hM)) (t_M_thrown A hM ?_)
    rw [hc0]
    refine pg_iload X d_L_law_1004 rfl ?_
    refine pg_icmp_eq X d_L_law_1006 (fun c1 => ?_) (fun c1 => ?_)
    rotate_left
    · exact absurd rfl c1
    refine pg_iload X d_L_law_1011 rfl ?_
    refine pg_if_ne X d_L_law_1013 (fun c2 => ?_) (fun c2 => ?_)
    · skip
      refine pg_goto X d_L_law_1028 ?_
      exact pg_room (by first | omega | (dsimp only [px_rt, px_rm]; omega)) (by first | omega | (dsimp only [px_rt, px_rm]; omega)) (kk _ _ π2 R2)
    have ho0 := hb0 b rfl c2
    refine pg_aload_n X d_L_law_1016 rfl ?_
    refine pg_iconst X (0) d_L_law_1017 (by decide) ?_
    refine pg_lald X d_L_law_1018 (px_rd_of ho) in01 ?_
    change px_G Γ G Q true _ _ _ _ [.long (o 0)] π2
    rw [ho0]
    refine pg_iload X d_L_law_1019 rfl ?_
    refine pg_i2l X d_L_law_1021 ?_
    refine pg_lcmp X d_L_law_1022 ?_
    rw [cmp_0]
    refine pg_if_eq X d_L_law_1023 (fun c3 => ?_) (fun c3 => ?_)
    rotate_left
    · exact absurd rfl c3
    refine pg_goto X d_L_law_1028 ?_
    exact pg_room (by first | omega | (dsimp only [px_rt, px_rm]; omega)) (by first | omega | (dsimp only [px_rt, px_rm]; omega)) (kk _ _ π2 R2)
theorem law_seen (X : px_X Γ G code "VisitorStepsLaw") (A : GA G) (Hc : CAT G) (hfl : FL Γ.l) (hR : Γ.R = room_1) (Rl : RL z zm zo π) (hsc : G.ρ sa = some (.inl (.int, N, .inl f))) (hi : i + 4 < N) (hN : N < 2 ^ 31) (hc : nc + 2 ≤ Γ.R.cells) (hs : ns + 12 ≤ Γ.R.slots) (kk : ∀ x5 x6 π', RL z zm zo π' → px_G Γ G Q true (nc + 2) (ns + 12) 1409 [some (.ref sa), some (.ref z), some (.ref zm), some (.ref zo), some (.int (nI i)), x5, x6] [] π') : px_G Γ G Q true nc ns 1031 [some (.ref sa), some (.ref z), some (.ref zm), some (.ref zo), some (.int (nI i)), x5, x6] [] π := by
  have hG := A.1
  have p1 : ∀ i, nI i + 1 = nI (i + 1) := nI_1
  have p2 : ∀ i, nI i + 2 = nI (i + 2) := fun i => nI_add i 2
  have p3 : ∀ i, nI i + 3 = nI (i + 3) := fun i => nI_add i 3
  have p4 : ∀ i, nI i + 4 = nI (i + 4) := fun i => nI_add i 4
  obtain ⟨h, w, wt, μ, ta, o, wd, ht, nt, nd, tl, nw, Rx⟩ := Rl
  refine pg_aload_n X d_L_law_1031 rfl ?_
  refine pg_aload_n X d_L_law_1032 rfl ?_
  refine pg_iload X d_L_law_1033 rfl ?_
  refine pg_iconst X (1) d_L_law_1035 (by decide) ?_
  refine pg_iadd X d_L_law_1036 ?_
  rw [p1]
  refine pg_ialdN X d_L_law_1037 (px_rd_r hsc) (by omega) (by omega) ?_
  refine pg_aload_n X d_L_law_1038 rfl ?_
  refine pz_SH (As := [_, _, _]) X d_L_law_1039 (cw_134 hG) (sw_134 hG) rfl rfl (Nat.le_of_ble_eq_true rfl) (by rw [hR]; exact ⟨by decide, by decide⟩) (by decide) (by first | omega | (dsimp only [px_rt, px_rm]; omega)) (by first | omega | (dsimp only [px_rt, px_rm]; omega)) (op_seen A hfl Hc Rx (fun c π1 M1 => ?_))
  obtain ⟨⟨μ1, hM1⟩, mod⟩ := M1
  refine pg_istore5 X d_L_law_1042 ?_
  refine pg_aload_n X d_L_law_1044 rfl ?_
  refine pg_aload_n X d_L_law_1045 rfl ?_
  refine pg_iload X d_L_law_1046 rfl ?_
  refine pg_iconst X (1) d_L_law_1048 (by decide) ?_
  refine pg_iadd X d_L_law_1049 ?_
  rw [p1]
  refine pg_ialdN X d_L_law_1050 (px_rd_r hsc) (by omega) (by omega) ?_
  refine pz_V (ci := 4) (As := [_]) X d_L_law_1051 (cw_136 hG) (iw_136 hG) (vw_136 hG) (fun r h => by rw [hG.2] at h; cases h; rfl) rfl rfl (Nat.le_of_ble_eq_true rfl) (by rw [hR]; exact ⟨by decide, by decide⟩) (by decide) (by first | omega | (dsimp only [px_rt, px_rm]; omega)) (by first | omega | (dsimp only [px_rt, px_rm]; omega)) (px_rd_of (RM.o hM1)) (mod _ (fun b π2 hp T2 => ?_))
  obtain ⟨h, w, wt, μ, ta, o, wd, ht, nt, nd, tl, nw, Rx2, hc0, hb0⟩ := T2
  have hM := Rx2.2.2.1
  have ho := Rx2.2.2.2.1
  have R2 : RL z zm zo π2 := ⟨h, w, wt, μ, ta, o, wd, ht, nt, nd, tl, nw, Rx2⟩
  refine pg_istore6 X d_L_law_1054 ?_
  refine pg_aload_n X d_L_law_1056 rfl ?_
  refine pz_V (ci := 4) (As := []) X d_L_law_1057 (cw_92 hG) (iw_92 hG) (vw_92 hG) (fun r h => by rw [hG.2] at h; cases h; rfl) rfl rfl (Nat.le_of_ble_eq_true rfl) (by rw [hR]; exact ⟨by decide, by decide⟩) (by decide) (by first | omega | (dsimp only [px_rt, px_rm]; omega)) (by first | omega | (dsimp only [px_rt, px_rm]; omega)) (px_rd_of (RM.o hM)) (t_M_thrown A hM ?_)
  rw [hc0]
  refine pg_iload X d_L_law_1060 rfl ?_
  refine pg_icmp_eq X d_L_law_1062 (fun c1 => ?_) (fun c1 => ?_)
  rotate_left
  · exact absurd rfl c1
  refine pg_iload X d_L_law_1067 rfl ?_
  refine pg_if_ne X d_L_law_1069 (fun c2 => ?_) (fun c2 => ?_)
  · skip
    refine pg_goto X d_L_law_1084 ?_
    exact pg_room (by first | omega | (dsimp only [px_rt, px_rm]; omega)) (by first | omega | (dsimp only [px_rt, px_rm]; omega)) (kk _ _ π2 R2)
  have ho0 := hb0 b rfl c2
  refine pg_aload_n X d_L_law_1072 rfl ?_
  refine pg_iconst X (0) d_L_law_1073 (by decide) ?_
  refine pg_lald X d_L_law_1074 (px_rd_of ho) in01 ?_
  change px_G Γ G Q true _ _ _ _ [.long (o 0)] π2
  rw [ho0]
  refine pg_iload X d_L_law_1075 rfl ?_
  refine pg_i2l X d_L_law_1077 ?_
  refine pg_lcmp X d_L_law_1078 ?_
  rw [cmp_0]
  refine pg_if_eq X d_L_law_1079 (fun c3 => ?_) (fun c3 => ?_)
  rotate_left
  · exact absurd rfl c3
  refine pg_goto X d_L_law_1084 ?_
  exact pg_room (by first | omega | (dsimp only [px_rt, px_rm]; omega)) (by first | omega | (dsimp only [px_rt, px_rm]; omega)) (kk _ _ π2 R2)
theorem law_far (X : px_X Γ G code "VisitorStepsLaw") (A : GA G) (Hc : CAT G) (hfl : FL Γ.l) (hR : Γ.R = room_1) (Rl : RL z zm zo π) (hsc : G.ρ sa = some (.inl (.int, N, .inl f))) (hi : i + 4 < N) (hN : N < 2 ^ 31) (hc : nc + 2 ≤ Γ.R.cells) (hs : ns + 12 ≤ Γ.R.slots) (kk : ∀ x5 x6 π', RL z zm zo π' → px_G Γ G Q true (nc + 2) (ns + 12) 1409 [some (.ref sa), some (.ref z), some (.ref zm), some (.ref zo), some (.int (nI i)), x5, x6] [] π') : px_G Γ G Q true nc ns 1087 [some (.ref sa), some (.ref z), some (.ref zm), some (.ref zo), some (.int (nI i)), x5, x6] [] π := by
  have hG := A.1
  have p1 : ∀ i, nI i + 1 = nI (i + 1) := nI_1
  have p2 : ∀ i, nI i + 2 = nI (i + 2) := fun i => nI_add i 2
  have p3 : ∀ i, nI i + 3 = nI (i + 3) := fun i => nI_add i 3
  have p4 : ∀ i, nI i + 4 = nI (i + 4) := fun i => nI_add i 4
  obtain ⟨h, w, wt, μ, ta, o, wd, ht, nt, nd, tl, nw, Rx⟩ := Rl
  refine pg_aload_n X d_L_law_1087 rfl ?_
  refine pg_aload_n X d_L_law_1088 rfl ?_
  refine pg_iload X d_L_law_1089 rfl ?_
  refine pg_iconst X (1) d_L_law_1091 (by decide) ?_
  refine pg_iadd X d_L_law_1092 ?_
  rw [p1]
  refine pg_ialdN X d_L_law_1093 (px_rd_r hsc) (by omega) (by omega) ?_
  refine pg_aload_n X d_L_law_1094 rfl ?_
  refine pg_iload X d_L_law_1095 rfl ?_
  refine pg_iconst X (2) d_L_law_1097 (by decide) ?_
  refine pg_iadd X d_L_law_1098 ?_
  rw [p2]
  refine pg_ialdN X d_L_law_1099 (px_rd_r hsc) (by omega) (by omega) ?_
  refine pg_aload_n X d_L_law_1100 rfl ?_
  refine pg_iload X d_L_law_1101 rfl ?_
  refine pg_iconst X (3) d_L_law_1103 (by decide) ?_
  refine pg_iadd X d_L_law_1104 ?_
  rw [p3]
  refine pg_ialdN X d_L_law_1105 (px_rd_r hsc) (by omega) (by omega) ?_
  refine pg_aload_n X d_L_law_1106 rfl ?_
  refine pz_SH (As := [_, _, _, _, _]) X d_L_law_1107 (cw_137 hG) (sw_137 hG) rfl rfl (Nat.le_of_ble_eq_true rfl) (by rw [hR]; exact ⟨by decide, by decide⟩) (by decide) (by first | omega | (dsimp only [px_rt, px_rm]; omega)) (by first | omega | (dsimp only [px_rt, px_rm]; omega)) (op_far A hfl Hc Rx (fun c π1 M1 => ?_))
  obtain ⟨⟨μ1, hM1⟩, mod⟩ := M1
  refine pg_istore5 X d_L_law_1110 ?_
  refine pg_aload_n X d_L_law_1112 rfl ?_
  refine pg_aload_n X d_L_law_1113 rfl ?_
  refine pg_iload X d_L_law_1114 rfl ?_
  refine pg_iconst X (1) d_L_law_1116 (by decide) ?_
  refine pg_iadd X d_L_law_1117 ?_
  rw [p1]
  refine pg_ialdN X d_L_law_1118 (px_rd_r hsc) (by omega) (by omega) ?_
  refine pg_aload_n X d_L_law_1119 rfl ?_
  refine pg_iload X d_L_law_1120 rfl ?_
  refine pg_iconst X (2) d_L_law_1122 (by decide) ?_
  refine pg_iadd X d_L_law_1123 ?_
  rw [p2]
  refine pg_ialdN X d_L_law_1124 (px_rd_r hsc) (by omega) (by omega) ?_
  refine pg_aload_n X d_L_law_1125 rfl ?_
  refine pg_iload X d_L_law_1126 rfl ?_
  refine pg_iconst X (3) d_L_law_1128 (by decide) ?_
  refine pg_iadd X d_L_law_1129 ?_
  rw [p3]
  refine pg_ialdN X d_L_law_1130 (px_rd_r hsc) (by omega) (by omega) ?_
  refine pz_V (ci := 4) (As := [_, _, _]) X d_L_law_1131 (cw_139 hG) (iw_139 hG) (vw_139 hG) (fun r h => by rw [hG.2] at h; cases h; rfl) rfl rfl (Nat.le_of_ble_eq_true rfl) (by rw [hR]; exact ⟨by decide, by decide⟩) (by decide) (by first | omega | (dsimp only [px_rt, px_rm]; omega)) (by first | omega | (dsimp only [px_rt, px_rm]; omega)) (px_rd_of (RM.o hM1)) (mod _ (fun b π2 hp T2 => ?_))
  obtain ⟨h, w, wt, μ, ta, o, wd, ht, nt, nd, tl, nw, Rx2, hc0, hb0⟩ := T2
  have hM := Rx2.2.2.1
  have ho := Rx2.2.2.2.1
  have R2 : RL z zm zo π2 := ⟨h, w, wt, μ, ta, o, wd, ht, nt, nd, tl, nw, Rx2⟩
  refine pg_istore6 X d_L_law_1134 ?_
  refine pg_aload_n X d_L_law_1136 rfl ?_
  refine pz_V (ci := 4) (As := []) X d_L_law_1137 (cw_92 hG) (iw_92 hG) (vw_92 hG) (fun r h => by rw [hG.2] at h; cases h; rfl) rfl rfl (Nat.le_of_ble_eq_true rfl) (by rw [hR]; exact ⟨by decide, by decide⟩) (by decide) (by first | omega | (dsimp only [px_rt, px_rm]; omega)) (by first | omega | (dsimp only [px_rt, px_rm]; omega)) (px_rd_of (RM.o hM)) (t_M_thrown A hM ?_)
  rw [hc0]
  refine pg_iload X d_L_law_1140 rfl ?_
  refine pg_icmp_eq X d_L_law_1142 (fun c1 => ?_) (fun c1 => ?_)
  rotate_left
  · exact absurd rfl c1
  refine pg_iload X d_L_law_1147 rfl ?_
  refine pg_if_ne X d_L_law_1149 (fun c2 => ?_) (fun c2 => ?_)
  · skip
    refine pg_goto X d_L_law_1164 ?_
    exact pg_room (by first | omega | (dsimp only [px_rt, px_rm]; omega)) (by first | omega | (dsimp only [px_rt, px_rm]; omega)) (kk _ _ π2 R2)
  have ho0 := hb0 b rfl c2
  refine pg_aload_n X d_L_law_1152 rfl ?_
  refine pg_iconst X (0) d_L_law_1153 (by decide) ?_
  refine pg_lald X d_L_law_1154 (px_rd_of ho) in01 ?_
  change px_G Γ G Q true _ _ _ _ [.long (o 0)] π2
  rw [ho0]
  refine pg_iload X d_L_law_1155 rfl ?_
  refine pg_i2l X d_L_law_1157 ?_
  refine pg_lcmp X d_L_law_1158 ?_
  rw [cmp_0]
  refine pg_if_eq X d_L_law_1159 (fun c3 => ?_) (fun c3 => ?_)
  rotate_left
  · exact absurd rfl c3
  refine pg_goto X d_L_law_1164 ?_
  exact pg_room (by first | omega | (dsimp only [px_rt, px_rm]; omega)) (by first | omega | (dsimp only [px_rt, px_rm]; omega)) (kk _ _ π2 R2)
theorem law_escape (X : px_X Γ G code "VisitorStepsLaw") (A : GA G) (Hc : CAT G) (hfl : FL Γ.l) (hR : Γ.R = room_1) (Rl : RL z zm zo π) (hsc : G.ρ sa = some (.inl (.int, N, .inl f))) (hi : i + 4 < N) (hN : N < 2 ^ 31) (hc : nc + 2 ≤ Γ.R.cells) (hs : ns + 12 ≤ Γ.R.slots) (kk : ∀ x5 x6 π', RL z zm zo π' → px_G Γ G Q true (nc + 2) (ns + 12) 1409 [some (.ref sa), some (.ref z), some (.ref zm), some (.ref zo), some (.int (nI i)), x5, x6] [] π') : px_G Γ G Q true nc ns 1167 [some (.ref sa), some (.ref z), some (.ref zm), some (.ref zo), some (.int (nI i)), x5, x6] [] π := by
  have hG := A.1
  have p1 : ∀ i, nI i + 1 = nI (i + 1) := nI_1
  have p2 : ∀ i, nI i + 2 = nI (i + 2) := fun i => nI_add i 2
  have p3 : ∀ i, nI i + 3 = nI (i + 3) := fun i => nI_add i 3
  have p4 : ∀ i, nI i + 4 = nI (i + 4) := fun i => nI_add i 4
  obtain ⟨h, w, wt, μ, ta, o, wd, ht, nt, nd, tl, nw, Rx⟩ := Rl
  refine pg_aload_n X d_L_law_1167 rfl ?_
  refine pz_V (ci := 3) (As := []) X d_L_law_1168 (cw_140 hG) (iw_140 hG) (vw_140 hG) (fun r h => by rw [hG.2] at h; cases h; rfl) rfl rfl (Nat.le_of_ble_eq_true rfl) (by rw [hR]; exact ⟨by decide, by decide⟩) (by decide) (by first | omega | (dsimp only [px_rt, px_rm]; omega)) (by first | omega | (dsimp only [px_rt, px_rm]; omega)) (px_rd_of Rx.2.1.1) (op_escape A Rx (fun v π1 M1 mod => ?_))
  obtain ⟨μ1, hM1⟩ := M1
  refine pg_aload_n X d_L_law_1171 rfl ?_
  refine pz_V (ci := 4) (As := []) X d_L_law_1172 (cw_143 hG) (iw_143 hG) (vw_143 hG) (fun r h => by rw [hG.2] at h; cases h; rfl) rfl rfl (Nat.le_of_ble_eq_true rfl) (by rw [hR]; exact ⟨by decide, by decide⟩) (by decide) (by first | omega | (dsimp only [px_rt, px_rm]; omega)) (by first | omega | (dsimp only [px_rt, px_rm]; omega)) (px_rd_of (RM.o hM1)) (mod _ (fun π2 R2 => ?_))
  refine pg_icmp_eq X d_L_law_1175 (fun c1 => ?_) (fun c1 => ?_)
  · skip
    exact pg_room (by first | omega | (dsimp only [px_rt, px_rm]; omega)) (by first | omega | (dsimp only [px_rt, px_rm]; omega)) (kk _ _ π2 R2)
  · exact absurd rfl c1
theorem law_counted (X : px_X Γ G code "VisitorStepsLaw") (A : GA G) (Hc : CAT G) (hfl : FL Γ.l) (hR : Γ.R = room_1) (Rl : RL z zm zo π) (hsc : G.ρ sa = some (.inl (.int, N, .inl f))) (hi : i + 4 < N) (hN : N < 2 ^ 31) (hc : nc + 2 ≤ Γ.R.cells) (hs : ns + 12 ≤ Γ.R.slots) (kk : ∀ x5 x6 π', RL z zm zo π' → px_G Γ G Q true (nc + 2) (ns + 12) 1409 [some (.ref sa), some (.ref z), some (.ref zm), some (.ref zo), some (.int (nI i)), x5, x6] [] π') : px_G Γ G Q true nc ns 1180 [some (.ref sa), some (.ref z), some (.ref zm), some (.ref zo), some (.int (nI i)), x5, x6] [] π := by
  have hG := A.1
  have p1 : ∀ i, nI i + 1 = nI (i + 1) := nI_1
  have p2 : ∀ i, nI i + 2 = nI (i + 2) := fun i => nI_add i 2
  have p3 : ∀ i, nI i + 3 = nI (i + 3) := fun i => nI_add i 3
  have p4 : ∀ i, nI i + 4 = nI (i + 4) := fun i => nI_add i 4
  obtain ⟨h, w, wt, μ, ta, o, wd, ht, nt, nd, tl, nw, Rx⟩ := Rl
  refine pg_aload_n X d_L_law_1180 rfl ?_
  refine pg_aload_n X d_L_law_1181 rfl ?_
  refine pg_iload X d_L_law_1182 rfl ?_
  refine pg_iconst X (1) d_L_law_1184 (by decide) ?_
  refine pg_iadd X d_L_law_1185 ?_
  rw [p1]
  refine pg_ialdN X d_L_law_1186 (px_rd_r hsc) (by omega) (by omega) ?_
  refine pg_aload_n X d_L_law_1187 rfl ?_
  refine pg_iload X d_L_law_1188 rfl ?_
  refine pg_iconst X (2) d_L_law_1190 (by decide) ?_
  refine pg_iadd X d_L_law_1191 ?_
  rw [p2]
  refine pg_ialdN X d_L_law_1192 (px_rd_r hsc) (by omega) (by omega) ?_
  refine pz_SH (As := [_, _, _]) X d_L_law_1193 (cw_144 hG) (sw_144 hG) rfl rfl (Nat.le_of_ble_eq_true rfl) (by rw [hR]; exact ⟨by decide, by decide⟩) (by decide) (by first | omega | (dsimp only [px_rt, px_rm]; omega)) (by first | omega | (dsimp only [px_rt, px_rm]; omega)) (op_counted A hfl Hc Rx (fun c π1 M1 => ?_))
  obtain ⟨⟨μ1, hM1⟩, mod⟩ := M1
  refine pg_istore5 X d_L_law_1196 ?_
  refine pg_aload_n X d_L_law_1198 rfl ?_
  refine pg_aload_n X d_L_law_1199 rfl ?_
  refine pg_iload X d_L_law_1200 rfl ?_
  refine pg_iconst X (1) d_L_law_1202 (by decide) ?_
  refine pg_iadd X d_L_law_1203 ?_
  rw [p1]
  refine pg_ialdN X d_L_law_1204 (px_rd_r hsc) (by omega) (by omega) ?_
  refine pg_aload_n X d_L_law_1205 rfl ?_
  refine pg_iload X d_L_law_1206 rfl ?_
  refine pg_iconst X (2) d_L_law_1208 (by decide) ?_
  refine pg_iadd X d_L_law_1209 ?_
  rw [p2]
  refine pg_ialdN X d_L_law_1210 (px_rd_r hsc) (by omega) (by omega) ?_
  refine pz_V (ci := 4) (As := [_, _]) X d_L_law_1211 (cw_147 hG) (iw_147 hG) (vw_147 hG) (fun r h => by rw [hG.2] at h; cases h; rfl) rfl rfl (Nat.le_of_ble_eq_true rfl) (by rw [hR]; exact ⟨by decide, by decide⟩) (by decide) (by first | omega | (dsimp only [px_rt, px_rm]; omega)) (by first | omega | (dsimp only [px_rt, px_rm]; omega)) (px_rd_of (RM.o hM1)) (mod _ (fun π2 T2 => ?_))
  obtain ⟨h, w, wt, μ, ta, o, wd, ht, nt, nd, tl, nw, Rx2, hc0, hb0⟩ := T2
  have hM := Rx2.2.2.1
  have ho := Rx2.2.2.2.1
  have R2 : RL z zm zo π2 := ⟨h, w, wt, μ, ta, o, wd, ht, nt, nd, tl, nw, Rx2⟩
  refine pg_aload_n X d_L_law_1214 rfl ?_
  refine pz_V (ci := 4) (As := []) X d_L_law_1215 (cw_92 hG) (iw_92 hG) (vw_92 hG) (fun r h => by rw [hG.2] at h; cases h; rfl) rfl rfl (Nat.le_of_ble_eq_true rfl) (by rw [hR]; exact ⟨by decide, by decide⟩) (by decide) (by first | omega | (dsimp only [px_rt, px_rm]; omega)) (by first | omega | (dsimp only [px_rt, px_rm]; omega)) (px_rd_of (RM.o hM)) (t_M_thrown A hM ?_)
  rw [hc0]
  refine pg_iload X d_L_law_1218 rfl ?_
  refine pg_icmp_eq X d_L_law_1220 (fun c1 => ?_) (fun c1 => ?_)
  rotate_left
  · exact absurd rfl c1
  refine pg_goto X d_L_law_1225 ?_
  exact pg_room (by first | omega | (dsimp only [px_rt, px_rm]; omega)) (by first | omega | (dsimp only [px_rt, px_rm]; omega)) (kk _ _ π2 R2)
theorem law_sum (X : px_X Γ G code "VisitorStepsLaw") (A : GA G) (Hc : CAT G) (hfl : FL Γ.l) (hR : Γ.R = room_1) (Rl : RL z zm zo π) (hsc : G.ρ sa = some (.inl (.int, N, .inl f))) (hi : i + 4 < N) (hN : N < 2 ^ 31) (hc : nc + 2 ≤ Γ.R.cells) (hs : ns + 12 ≤ Γ.R.slots) (kk : ∀ x5 x6 π', RL z zm zo π' → px_G Γ G Q true (nc + 2) (ns + 12) 1409 [some (.ref sa), some (.ref z), some (.ref zm), some (.ref zo), some (.int (nI i)), x5, x6] [] π') : px_G Γ G Q true nc ns 1228 [some (.ref sa), some (.ref z), some (.ref zm), some (.ref zo), some (.int (nI i)), x5, x6] [] π := by
  have hG := A.1
  have p1 : ∀ i, nI i + 1 = nI (i + 1) := nI_1
  have p2 : ∀ i, nI i + 2 = nI (i + 2) := fun i => nI_add i 2
  have p3 : ∀ i, nI i + 3 = nI (i + 3) := fun i => nI_add i 3
  have p4 : ∀ i, nI i + 4 = nI (i + 4) := fun i => nI_add i 4
  obtain ⟨h, w, wt, μ, ta, o, wd, ht, nt, nd, tl, nw, Rx⟩ := Rl
  refine pg_aload_n X d_L_law_1228 rfl ?_
  refine pz_V (ci := 3) (As := []) X d_L_law_1229 (cw_148 hG) (iw_148 hG) (vw_148 hG) (fun r h => by rw [hG.2] at h; cases h; rfl) rfl rfl (Nat.le_of_ble_eq_true rfl) (by rw [hR]; exact ⟨by decide, by decide⟩) (by decide) (by first | omega | (dsimp only [px_rt, px_rm]; omega)) (by first | omega | (dsimp only [px_rt, px_rm]; omega)) (px_rd_of Rx.2.1.1) (op_sum A Rx (fun v π1 M1 mod => ?_))
  obtain ⟨μ1, hM1⟩ := M1
  refine pg_aload_n X d_L_law_1232 rfl ?_
  refine pz_V (ci := 4) (As := []) X d_L_law_1233 (cw_151 hG) (iw_151 hG) (vw_151 hG) (fun r h => by rw [hG.2] at h; cases h; rfl) rfl rfl (Nat.le_of_ble_eq_true rfl) (by rw [hR]; exact ⟨by decide, by decide⟩) (by decide) (by first | omega | (dsimp only [px_rt, px_rm]; omega)) (by first | omega | (dsimp only [px_rt, px_rm]; omega)) (px_rd_of (RM.o hM1)) (mod _ (fun π2 R2 => ?_))
  refine pg_icmp_eq X d_L_law_1236 (fun c1 => ?_) (fun c1 => ?_)
  · skip
    exact pg_room (by first | omega | (dsimp only [px_rt, px_rm]; omega)) (by first | omega | (dsimp only [px_rt, px_rm]; omega)) (kk _ _ π2 R2)
  · exact absurd rfl c1
theorem law_fit (X : px_X Γ G code "VisitorStepsLaw") (A : GA G) (Hc : CAT G) (hfl : FL Γ.l) (hR : Γ.R = room_1) (Rl : RL z zm zo π) (hsc : G.ρ sa = some (.inl (.int, N, .inl f))) (hi : i + 4 < N) (hN : N < 2 ^ 31) (hc : nc + 2 ≤ Γ.R.cells) (hs : ns + 12 ≤ Γ.R.slots) (kk : ∀ x5 x6 π', RL z zm zo π' → px_G Γ G Q true (nc + 2) (ns + 12) 1409 [some (.ref sa), some (.ref z), some (.ref zm), some (.ref zo), some (.int (nI i)), x5, x6] [] π') : px_G Γ G Q true nc ns 1241 [some (.ref sa), some (.ref z), some (.ref zm), some (.ref zo), some (.int (nI i)), x5, x6] [] π := by
  have hG := A.1
  have p1 : ∀ i, nI i + 1 = nI (i + 1) := nI_1
  have p2 : ∀ i, nI i + 2 = nI (i + 2) := fun i => nI_add i 2
  have p3 : ∀ i, nI i + 3 = nI (i + 3) := fun i => nI_add i 3
  have p4 : ∀ i, nI i + 4 = nI (i + 4) := fun i => nI_add i 4
  obtain ⟨h, w, wt, μ, ta, o, wd, ht, nt, nd, tl, nw, Rx⟩ := Rl
  refine pg_aload_n X d_L_law_1241 rfl ?_
  refine pg_aload_n X d_L_law_1242 rfl ?_
  refine pg_iload X d_L_law_1243 rfl ?_
  refine pg_iconst X (1) d_L_law_1245 (by decide) ?_
  refine pg_iadd X d_L_law_1246 ?_
  rw [p1]
  refine pg_ialdN X d_L_law_1247 (px_rd_r hsc) (by omega) (by omega) ?_
  refine pg_aload_n X d_L_law_1248 rfl ?_
  refine pz_SH (As := [_, _, _]) X d_L_law_1249 (cw_152 hG) (sw_152 hG) rfl rfl (Nat.le_of_ble_eq_true rfl) (by rw [hR]; exact ⟨by decide, by decide⟩) (by decide) (by first | omega | (dsimp only [px_rt, px_rm]; omega)) (by first | omega | (dsimp only [px_rt, px_rm]; omega)) (op_fit A hfl Hc Rx (fun c π1 M1 => ?_))
  obtain ⟨⟨μ1, hM1⟩, mod⟩ := M1
  refine pg_istore5 X d_L_law_1252 ?_
  refine pg_aload_n X d_L_law_1254 rfl ?_
  refine pg_aload_n X d_L_law_1255 rfl ?_
  refine pg_iload X d_L_law_1256 rfl ?_
  refine pg_iconst X (1) d_L_law_1258 (by decide) ?_
  refine pg_iadd X d_L_law_1259 ?_
  rw [p1]
  refine pg_ialdN X d_L_law_1260 (px_rd_r hsc) (by omega) (by omega) ?_
  refine pz_V (ci := 4) (As := [_]) X d_L_law_1261 (cw_154 hG) (iw_154 hG) (vw_154 hG) (fun r h => by rw [hG.2] at h; cases h; rfl) rfl rfl (Nat.le_of_ble_eq_true rfl) (by rw [hR]; exact ⟨by decide, by decide⟩) (by decide) (by first | omega | (dsimp only [px_rt, px_rm]; omega)) (by first | omega | (dsimp only [px_rt, px_rm]; omega)) (px_rd_of (RM.o hM1)) (mod _ (fun b π2 hp T2 => ?_))
  obtain ⟨h, w, wt, μ, ta, o, wd, ht, nt, nd, tl, nw, Rx2, hc0, hb0⟩ := T2
  have hM := Rx2.2.2.1
  have ho := Rx2.2.2.2.1
  have R2 : RL z zm zo π2 := ⟨h, w, wt, μ, ta, o, wd, ht, nt, nd, tl, nw, Rx2⟩
  refine pg_istore6 X d_L_law_1264 ?_
  refine pg_aload_n X d_L_law_1266 rfl ?_
  refine pz_V (ci := 4) (As := []) X d_L_law_1267 (cw_92 hG) (iw_92 hG) (vw_92 hG) (fun r h => by rw [hG.2] at h; cases h; rfl) rfl rfl (Nat.le_of_ble_eq_true rfl) (by rw [hR]; exact ⟨by decide, by decide⟩) (by decide) (by first | omega | (dsimp only [px_rt, px_rm]; omega)) (by first | omega | (dsimp only [px_rt, px_rm]; omega)) (px_rd_of (RM.o hM)) (t_M_thrown A hM ?_)
  rw [hc0]
  refine pg_iload X d_L_law_1270 rfl ?_
  refine pg_icmp_eq X d_L_law_1272 (fun c1 => ?_) (fun c1 => ?_)
  rotate_left
  · exact absurd rfl c1
  refine pg_iload X d_L_law_1277 rfl ?_
  refine pg_if_ne X d_L_law_1279 (fun c2 => ?_) (fun c2 => ?_)
  · skip
    refine pg_goto X d_L_law_1294 ?_
    exact pg_room (by first | omega | (dsimp only [px_rt, px_rm]; omega)) (by first | omega | (dsimp only [px_rt, px_rm]; omega)) (kk _ _ π2 R2)
  have ho0 := hb0 b rfl c2
  refine pg_aload_n X d_L_law_1282 rfl ?_
  refine pg_iconst X (0) d_L_law_1283 (by decide) ?_
  refine pg_lald X d_L_law_1284 (px_rd_of ho) in01 ?_
  change px_G Γ G Q true _ _ _ _ [.long (o 0)] π2
  rw [ho0]
  refine pg_iload X d_L_law_1285 rfl ?_
  refine pg_i2l X d_L_law_1287 ?_
  refine pg_lcmp X d_L_law_1288 ?_
  rw [cmp_0]
  refine pg_if_eq X d_L_law_1289 (fun c3 => ?_) (fun c3 => ?_)
  rotate_left
  · exact absurd rfl c3
  refine pg_goto X d_L_law_1294 ?_
  exact pg_room (by first | omega | (dsimp only [px_rt, px_rm]; omega)) (by first | omega | (dsimp only [px_rt, px_rm]; omega)) (kk _ _ π2 R2)
theorem law_interest (X : px_X Γ G code "VisitorStepsLaw") (A : GA G) (Hc : CAT G) (hfl : FL Γ.l) (hR : Γ.R = room_1) (Rl : RL z zm zo π) (hsc : G.ρ sa = some (.inl (.int, N, .inl f))) (hi : i + 4 < N) (hN : N < 2 ^ 31) (hc : nc + 2 ≤ Γ.R.cells) (hs : ns + 12 ≤ Γ.R.slots) (kk : ∀ x5 x6 π', RL z zm zo π' → px_G Γ G Q true (nc + 2) (ns + 12) 1409 [some (.ref sa), some (.ref z), some (.ref zm), some (.ref zo), some (.int (nI i)), x5, x6] [] π') : px_G Γ G Q true nc ns 1297 [some (.ref sa), some (.ref z), some (.ref zm), some (.ref zo), some (.int (nI i)), x5, x6] [] π := by
  have hG := A.1
  have p1 : ∀ i, nI i + 1 = nI (i + 1) := nI_1
  have p2 : ∀ i, nI i + 2 = nI (i + 2) := fun i => nI_add i 2
  have p3 : ∀ i, nI i + 3 = nI (i + 3) := fun i => nI_add i 3
  have p4 : ∀ i, nI i + 4 = nI (i + 4) := fun i => nI_add i 4
  obtain ⟨h, w, wt, μ, ta, o, wd, ht, nt, nd, tl, nw, Rx⟩ := Rl
  refine pg_aload_n X d_L_law_1297 rfl ?_
  refine pg_aload_n X d_L_law_1298 rfl ?_
  refine pg_iload X d_L_law_1299 rfl ?_
  refine pg_iconst X (1) d_L_law_1301 (by decide) ?_
  refine pg_iadd X d_L_law_1302 ?_
  rw [p1]
  refine pg_ialdN X d_L_law_1303 (px_rd_r hsc) (by omega) (by omega) ?_
  refine pg_aload_n X d_L_law_1304 rfl ?_
  refine pz_SH (As := [_, _, _]) X d_L_law_1305 (cw_155 hG) (sw_155 hG) rfl rfl (Nat.le_of_ble_eq_true rfl) (by rw [hR]; exact ⟨by decide, by decide⟩) (by decide) (by first | omega | (dsimp only [px_rt, px_rm]; omega)) (by first | omega | (dsimp only [px_rt, px_rm]; omega)) (op_interest A hfl Hc Rx (fun c π1 M1 => ?_))
  obtain ⟨⟨μ1, hM1⟩, mod⟩ := M1
  refine pg_istore5 X d_L_law_1308 ?_
  refine pg_aload_n X d_L_law_1310 rfl ?_
  refine pg_aload_n X d_L_law_1311 rfl ?_
  refine pg_iload X d_L_law_1312 rfl ?_
  refine pg_iconst X (1) d_L_law_1314 (by decide) ?_
  refine pg_iadd X d_L_law_1315 ?_
  rw [p1]
  refine pg_ialdN X d_L_law_1316 (px_rd_r hsc) (by omega) (by omega) ?_
  refine pz_V (ci := 4) (As := [_]) X d_L_law_1317 (cw_157 hG) (iw_157 hG) (vw_157 hG) (fun r h => by rw [hG.2] at h; cases h; rfl) rfl rfl (Nat.le_of_ble_eq_true rfl) (by rw [hR]; exact ⟨by decide, by decide⟩) (by decide) (by first | omega | (dsimp only [px_rt, px_rm]; omega)) (by first | omega | (dsimp only [px_rt, px_rm]; omega)) (px_rd_of (RM.o hM1)) (mod _ (fun b π2 hp T2 => ?_))
  obtain ⟨h, w, wt, μ, ta, o, wd, ht, nt, nd, tl, nw, Rx2, hc0, hb0⟩ := T2
  have hM := Rx2.2.2.1
  have ho := Rx2.2.2.2.1
  have R2 : RL z zm zo π2 := ⟨h, w, wt, μ, ta, o, wd, ht, nt, nd, tl, nw, Rx2⟩
  refine pg_istore6 X d_L_law_1320 ?_
  refine pg_aload_n X d_L_law_1322 rfl ?_
  refine pz_V (ci := 4) (As := []) X d_L_law_1323 (cw_92 hG) (iw_92 hG) (vw_92 hG) (fun r h => by rw [hG.2] at h; cases h; rfl) rfl rfl (Nat.le_of_ble_eq_true rfl) (by rw [hR]; exact ⟨by decide, by decide⟩) (by decide) (by first | omega | (dsimp only [px_rt, px_rm]; omega)) (by first | omega | (dsimp only [px_rt, px_rm]; omega)) (px_rd_of (RM.o hM)) (t_M_thrown A hM ?_)
  rw [hc0]
  refine pg_iload X d_L_law_1326 rfl ?_
  refine pg_icmp_eq X d_L_law_1328 (fun c1 => ?_) (fun c1 => ?_)
  rotate_left
  · exact absurd rfl c1
  refine pg_iload X d_L_law_1333 rfl ?_
  refine pg_if_ne X d_L_law_1335 (fun c2 => ?_) (fun c2 => ?_)
  · skip
    refine pg_goto X d_L_law_1350 ?_
    exact pg_room (by first | omega | (dsimp only [px_rt, px_rm]; omega)) (by first | omega | (dsimp only [px_rt, px_rm]; omega)) (kk _ _ π2 R2)
  have ho0 := hb0 b rfl c2
  refine pg_aload_n X d_L_law_1338 rfl ?_
  refine pg_iconst X (0) d_L_law_1339 (by decide) ?_
  refine pg_lald X d_L_law_1340 (px_rd_of ho) in01 ?_
  change px_G Γ G Q true _ _ _ _ [.long (o 0)] π2
  rw [ho0]
  refine pg_iload X d_L_law_1341 rfl ?_
  refine pg_i2l X d_L_law_1343 ?_
  refine pg_lcmp X d_L_law_1344 ?_
  rw [cmp_0]
  refine pg_if_eq X d_L_law_1345 (fun c3 => ?_) (fun c3 => ?_)
  rotate_left
  · exact absurd rfl c3
  refine pg_goto X d_L_law_1350 ?_
  exact pg_room (by first | omega | (dsimp only [px_rt, px_rm]; omega)) (by first | omega | (dsimp only [px_rt, px_rm]; omega)) (kk _ _ π2 R2)
theorem law_count (X : px_X Γ G code "VisitorStepsLaw") (A : GA G) (Hc : CAT G) (hfl : FL Γ.l) (hR : Γ.R = room_1) (Rl : RL z zm zo π) (hsc : G.ρ sa = some (.inl (.int, N, .inl f))) (hi : i + 4 < N) (hN : N < 2 ^ 31) (hc : nc + 2 ≤ Γ.R.cells) (hs : ns + 12 ≤ Γ.R.slots) (kk : ∀ x5 x6 π', RL z zm zo π' → px_G Γ G Q true (nc + 2) (ns + 12) 1409 [some (.ref sa), some (.ref z), some (.ref zm), some (.ref zo), some (.int (nI i)), x5, x6] [] π') : px_G Γ G Q true nc ns 1353 [some (.ref sa), some (.ref z), some (.ref zm), some (.ref zo), some (.int (nI i)), x5, x6] [] π := by
  have hG := A.1
  have p1 : ∀ i, nI i + 1 = nI (i + 1) := nI_1
  have p2 : ∀ i, nI i + 2 = nI (i + 2) := fun i => nI_add i 2
  have p3 : ∀ i, nI i + 3 = nI (i + 3) := fun i => nI_add i 3
  have p4 : ∀ i, nI i + 4 = nI (i + 4) := fun i => nI_add i 4
  obtain ⟨h, w, wt, μ, ta, o, wd, ht, nt, nd, tl, nw, Rx⟩ := Rl
  refine pg_aload_n X d_L_law_1353 rfl ?_
  refine pg_aload_n X d_L_law_1354 rfl ?_
  refine pg_iload X d_L_law_1355 rfl ?_
  refine pg_iconst X (1) d_L_law_1357 (by decide) ?_
  refine pg_iadd X d_L_law_1358 ?_
  rw [p1]
  refine pg_ialdN X d_L_law_1359 (px_rd_r hsc) (by omega) (by omega) ?_
  refine pg_aload_n X d_L_law_1360 rfl ?_
  refine pz_SH (As := [_, _, _]) X d_L_law_1361 (cw_158 hG) (sw_158 hG) rfl rfl (Nat.le_of_ble_eq_true rfl) (by rw [hR]; exact ⟨by decide, by decide⟩) (by decide) (by first | omega | (dsimp only [px_rt, px_rm]; omega)) (by first | omega | (dsimp only [px_rt, px_rm]; omega)) (op_count A hfl Hc Rx (fun c π1 M1 => ?_))
  obtain ⟨⟨μ1, hM1⟩, mod⟩ := M1
  refine pg_istore5 X d_L_law_1364 ?_
  refine pg_aload_n X d_L_law_1366 rfl ?_
  refine pg_aload_n X d_L_law_1367 rfl ?_
  refine pg_iload X d_L_law_1368 rfl ?_
  refine pg_iconst X (1) d_L_law_1370 (by decide) ?_
  refine pg_iadd X d_L_law_1371 ?_
  rw [p1]
  refine pg_ialdN X d_L_law_1372 (px_rd_r hsc) (by omega) (by omega) ?_
  refine pz_V (ci := 4) (As := [_]) X d_L_law_1373 (cw_160 hG) (iw_160 hG) (vw_160 hG) (fun r h => by rw [hG.2] at h; cases h; rfl) rfl rfl (Nat.le_of_ble_eq_true rfl) (by rw [hR]; exact ⟨by decide, by decide⟩) (by decide) (by first | omega | (dsimp only [px_rt, px_rm]; omega)) (by first | omega | (dsimp only [px_rt, px_rm]; omega)) (px_rd_of (RM.o hM1)) (mod _ (fun b π2 hp T2 => ?_))
  obtain ⟨h, w, wt, μ, ta, o, wd, ht, nt, nd, tl, nw, Rx2, hc0, hb0⟩ := T2
  have hM := Rx2.2.2.1
  have ho := Rx2.2.2.2.1
  have R2 : RL z zm zo π2 := ⟨h, w, wt, μ, ta, o, wd, ht, nt, nd, tl, nw, Rx2⟩
  refine pg_istore6 X d_L_law_1376 ?_
  refine pg_aload_n X d_L_law_1378 rfl ?_
  refine pz_V (ci := 4) (As := []) X d_L_law_1379 (cw_92 hG) (iw_92 hG) (vw_92 hG) (fun r h => by rw [hG.2] at h; cases h; rfl) rfl rfl (Nat.le_of_ble_eq_true rfl) (by rw [hR]; exact ⟨by decide, by decide⟩) (by decide) (by first | omega | (dsimp only [px_rt, px_rm]; omega)) (by first | omega | (dsimp only [px_rt, px_rm]; omega)) (px_rd_of (RM.o hM)) (t_M_thrown A hM ?_)
  rw [hc0]
  refine pg_iload X d_L_law_1382 rfl ?_
  refine pg_icmp_eq X d_L_law_1384 (fun c1 => ?_) (fun c1 => ?_)
  rotate_left
  · exact absurd rfl c1
  refine pg_iload X d_L_law_1389 rfl ?_
  refine pg_if_ne X d_L_law_1391 (fun c2 => ?_) (fun c2 => ?_)
  · skip
    refine pg_goto X d_L_law_1406 ?_
    exact pg_room (by first | omega | (dsimp only [px_rt, px_rm]; omega)) (by first | omega | (dsimp only [px_rt, px_rm]; omega)) (kk _ _ π2 R2)
  have ho0 := hb0 b rfl c2
  refine pg_aload_n X d_L_law_1394 rfl ?_
  refine pg_iconst X (0) d_L_law_1395 (by decide) ?_
  refine pg_lald X d_L_law_1396 (px_rd_of ho) in01 ?_
  change px_G Γ G Q true _ _ _ _ [.long (o 0)] π2
  rw [ho0]
  refine pg_iload X d_L_law_1397 rfl ?_
  refine pg_i2l X d_L_law_1399 ?_
  refine pg_lcmp X d_L_law_1400 ?_
  rw [cmp_0]
  refine pg_if_eq X d_L_law_1401 (fun c3 => ?_) (fun c3 => ?_)
  rotate_left
  · exact absurd rfl c3
  refine pg_goto X d_L_law_1406 ?_
  exact pg_room (by first | omega | (dsimp only [px_rt, px_rm]; omega)) (by first | omega | (dsimp only [px_rt, px_rm]; omega)) (kk _ _ π2 R2)
end LAC
