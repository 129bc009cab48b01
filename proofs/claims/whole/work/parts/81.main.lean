/-! THE LAW: one turn, all turns, the start -/
theorem and31 (y : Int32) : ∃ m, m < 32 ∧ y &&& 31 = nI m := by
  refine ⟨(y &&& 31).toBitVec.toNat, ?_, ?_⟩
  · have e : (y &&& 31).toBitVec = y.toBitVec &&& 31#32 := rfl
    rw [e, BitVec.toNat_and]
    exact Nat.lt_of_le_of_lt Nat.and_le_right (by decide)
  · apply Int32.toBitVec_inj.mp
    show (y &&& 31).toBitVec = BitVec.ofNat 32 (y &&& 31).toBitVec.toNat
    rw [BitVec.ofNat_toNat, BitVec.setWidth_eq]
theorem sub5 {N : Nat} (h : N ≤ 2563) : (nI N - 5).toInt = (N : Int) - 5 := by
  rw [Int32.toInt_sub, nI_toInt (by omega)]
  show ((N : Int) - 5).bmod (2 ^ 32) = _
  exact Int.bmod_eq_of_le (by omega) (by omega)
section LMA
variable {l : Launch} {Γ : px_Cm} {G : px_Cg} {Q : State → Prop} {K : Option Value ⊕ String → px_H → Prop} {z zm zo sa i N nc ns m : Nat} {f : Nat → Int32} {x5 x6 : Option Value} {π : px_H}
theorem t_L_cell (A : GA G) (hsc : G.ρ sa = some (.inl (.int, N, .inl f))) (hN : N < 2 ^ 31) (hm : m < 3) (k : K (.inl (some (.int (if m < N then f m else 0)))) π) : px_P l G y_L_cell b_L_cell 2 (some .int) (px_rm 0 0) false [.ref sa, .int (nI m)] π K := by
  have hG := A.1
  have hZ := A.2.1
  refine px_P.intro (by decide) hZ (by simp [Value.category]) (Nat.le_of_ble_eq_true rfl) rfl ?_
  intro Γ hl hR X Y hnm hs hbel
  subst hl
  refine pg_iload_n X d_L_cell_0 rfl ?_
  refine pg_aload_n X d_L_cell_1 rfl ?_
  refine pg_alen X d_L_cell_2 (px_rd_r hsc) ?_
  refine pg_icmp_ge X d_L_cell_3 (fun c1 => ?_) (fun c1 => ?_)
  · simp (disch := omega) only [Int32.lt_iff_toInt_lt, Int32.le_iff_toInt_le, nI_toInt, px_l0, px_l1, px_l2, px_l3, px_l4, px_l5, px_l6, px_l10, px_l11, px_l12, px_l16, px_l30, px_l100, px_l400] at c1
    rw [if_neg (by omega)] at k
    refine pg_iconst X (0) d_L_cell_12 (by decide) ?_
    exact pg_iret X Y d_L_cell_13 rfl (by decide) (Nat.zero_le _) (Nat.zero_le _) (k)
  · simp (disch := omega) only [Int32.lt_iff_toInt_lt, Int32.le_iff_toInt_le, nI_toInt, px_l0, px_l1, px_l2, px_l3, px_l4, px_l5, px_l6, px_l10, px_l11, px_l12, px_l16, px_l30, px_l100, px_l400] at c1
    rw [if_pos (by omega)] at k
    refine pg_aload_n X d_L_cell_6 rfl ?_
    refine pg_iload_n X d_L_cell_7 rfl ?_
    refine pg_ialdN X d_L_cell_8 (px_rd_r hsc) (by omega) (by omega) ?_
    refine pg_goto X d_L_cell_9 ?_
    exact pg_iret X Y d_L_cell_13 rfl (by decide) (Nat.zero_le _) (Nat.zero_le _) (k)
theorem law_turn (X : px_X Γ G code "VisitorStepsLaw") (A : GA G) (Hc : CAT G) (hfl : FL Γ.l) (hR : Γ.R = room_1) (Rl : RL z zm zo π) (hsc : G.ρ sa = some (.inl (.int, N, .inl f))) (hi : i + 4 < N) (hN : N < 2 ^ 31) (hc : nc + 2 ≤ Γ.R.cells) (hs : ns + 12 ≤ Γ.R.slots) (kk : ∀ x5 x6 π', RL z zm zo π' → px_G Γ G Q true (nc + 2) (ns + 12) 1409 [some (.ref sa), some (.ref z), some (.ref zm), some (.ref zo), some (.int (nI i)), x5, x6] [] π') : px_G Γ G Q true nc ns 62 [some (.ref sa), some (.ref z), some (.ref zm), some (.ref zo), some (.int (nI i)), x5, x6] [] π := by
  have hG := A.1
  refine pg_aload_n X d_L_law_62 rfl ?_
  refine pg_iload X d_L_law_63 rfl ?_
  refine pg_ialdN X d_L_law_65 (px_rd_r hsc) (by omega) (by omega) ?_
  refine pg_bipush X (31) d_L_law_66 (by decide) ?_
  refine pg_iand X d_L_law_68 ?_
  obtain ⟨m, hm, em⟩ := and31 (f i)
  rw [em]
  by_cases h0 : m = 0
  · subst h0
    refine pg_tin X d_L_law_69 (by decide) (by decide) rfl (tgt := 164) rfl ?_
    exact law_wall X A Hc hfl hR Rl hsc hi hN hc hs kk
  by_cases h1 : m = 1
  · subst h1
    refine pg_tin X d_L_law_69 (by decide) (by decide) rfl (tgt := 267) rfl ?_
    exact law_thing X A Hc hfl hR Rl hsc hi hN hc hs kk
  by_cases h2 : m = 2
  · subst h2
    refine pg_tin X d_L_law_69 (by decide) (by decide) rfl (tgt := 359) rfl ?_
    exact law_door X A Hc hfl hR Rl hsc hi hN hc hs kk
  by_cases h3 : m = 3
  · subst h3
    refine pg_tin X d_L_law_69 (by decide) (by decide) rfl (tgt := 427) rfl ?_
    exact law_room X A Hc hfl hR Rl hsc hi hN hc hs kk
  by_cases h4 : m = 4
  · subst h4
    refine pg_tin X d_L_law_69 (by decide) (by decide) rfl (tgt := 483) rfl ?_
    exact law_patience X A Hc hfl hR Rl hsc hi hN hc hs kk
  by_cases h5 : m = 5
  · subst h5
    refine pg_tin X d_L_law_69 (by decide) (by decide) rfl (tgt := 539) rfl ?_
    exact law_arrives X A Hc hfl hR Rl hsc hi hN hc hs kk
  by_cases h6 : m = 6
  · subst h6
    refine pg_tin X d_L_law_69 (by decide) (by decide) rfl (tgt := 619) rfl ?_
    exact law_run X A Hc hfl hR Rl hsc hi hN hc hs kk
  by_cases h7 : m = 7
  · subst h7
    refine pg_tin X d_L_law_69 (by decide) (by decide) rfl (tgt := 675) rfl ?_
    exact law_at X A Hc hfl hR Rl hsc hi hN hc hs kk
  by_cases h8 : m = 8
  · subst h8
    refine pg_tin X d_L_law_69 (by decide) (by decide) rfl (tgt := 743) rfl ?_
    exact law_about X A Hc hfl hR Rl hsc hi hN hc hs kk
  by_cases h9 : m = 9
  · subst h9
    refine pg_tin X d_L_law_69 (by decide) (by decide) rfl (tgt := 811) rfl ?_
    exact law_crowd X A Hc hfl hR Rl hsc hi hN hc hs kk
  by_cases h10 : m = 10
  · subst h10
    refine pg_tin X d_L_law_69 (by decide) (by decide) rfl (tgt := 879) rfl ?_
    exact law_stayed X A Hc hfl hR Rl hsc hi hN hc hs kk
  by_cases h11 : m = 11
  · subst h11
    refine pg_tin X d_L_law_69 (by decide) (by decide) rfl (tgt := 947) rfl ?_
    exact law_through X A Hc hfl hR Rl hsc hi hN hc hs kk
  by_cases h12 : m = 12
  · subst h12
    refine pg_tin X d_L_law_69 (by decide) (by decide) rfl (tgt := 1031) rfl ?_
    exact law_seen X A Hc hfl hR Rl hsc hi hN hc hs kk
  by_cases h13 : m = 13
  · subst h13
    refine pg_tin X d_L_law_69 (by decide) (by decide) rfl (tgt := 1087) rfl ?_
    exact law_far X A Hc hfl hR Rl hsc hi hN hc hs kk
  by_cases h14 : m = 14
  · subst h14
    refine pg_tin X d_L_law_69 (by decide) (by decide) rfl (tgt := 1167) rfl ?_
    exact law_escape X A Hc hfl hR Rl hsc hi hN hc hs kk
  by_cases h15 : m = 15
  · subst h15
    refine pg_tin X d_L_law_69 (by decide) (by decide) rfl (tgt := 1180) rfl ?_
    exact law_counted X A Hc hfl hR Rl hsc hi hN hc hs kk
  by_cases h16 : m = 16
  · subst h16
    refine pg_tin X d_L_law_69 (by decide) (by decide) rfl (tgt := 1228) rfl ?_
    exact law_sum X A Hc hfl hR Rl hsc hi hN hc hs kk
  by_cases h17 : m = 17
  · subst h17
    refine pg_tin X d_L_law_69 (by decide) (by decide) rfl (tgt := 1241) rfl ?_
    exact law_fit X A Hc hfl hR Rl hsc hi hN hc hs kk
  by_cases h18 : m = 18
  · subst h18
    refine pg_tin X d_L_law_69 (by decide) (by decide) rfl (tgt := 1297) rfl ?_
    exact law_interest X A Hc hfl hR Rl hsc hi hN hc hs kk
  by_cases h19 : m = 19
  · subst h19
    refine pg_tin X d_L_law_69 (by decide) (by decide) rfl (tgt := 1353) rfl ?_
    exact law_count X A Hc hfl hR Rl hsc hi hN hc hs kk
  refine pg_tout X d_L_law_69 (Or.inr (by rw [nI_toInt (by omega)]; omega)) (tgt := 1409) rfl ?_
  exact pg_room (by omega) (by omega) (kk _ _ π Rl)
theorem law_loop (X : px_X Γ G code "VisitorStepsLaw") (A : GA G) (Hc : CAT G) (hfl : FL Γ.l) (hR : Γ.R = room_1) (hsc : G.ρ sa = some (.inl (.int, N, .inl f))) (hN : N ≤ 2563)
    (kE : ∀ i nc ns x5 x6 π, nc ≤ Γ.R.cells → ns ≤ Γ.R.slots → px_G Γ G Q true nc ns 1415 [some (.ref sa), some (.ref z), some (.ref zm), some (.ref zo), some (.int (nI i)), x5, x6] [] π) :
    ∀ m i nc ns x5 x6 π, N < i + 5 * m → i < 4000 → nc + 2 * m ≤ Γ.R.cells → ns + 12 * m ≤ Γ.R.slots → RL z zm zo π → px_G Γ G Q true nc ns 53 [some (.ref sa), some (.ref z), some (.ref zm), some (.ref zo), some (.int (nI i)), x5, x6] [] π := by
  have hG := A.1
  have e5 := sub5 hN
  intro m
  induction m with
  | zero =>
    intro i nc ns x5 x6 π h1 h2 h3 h4 Rl
    refine pg_iload X d_L_law_53 rfl ?_
    refine pg_aload_n X d_L_law_55 rfl ?_
    refine pg_alen X d_L_law_56 (px_rd_r hsc) ?_
    refine pg_iconst X (5) d_L_law_57 (by decide) ?_
    refine pg_isub X d_L_law_58 ?_
    refine pg_icmp_gt X d_L_law_59 (fun c1 => ?_) (fun c1 => ?_)
    · exact kE i nc ns x5 x6 π (by omega) (by omega)
    · rw [Int32.lt_iff_toInt_lt, e5, nI_toInt (by omega)] at c1
      omega
  | succ m ih =>
    intro i nc ns x5 x6 π h1 h2 h3 h4 Rl
    refine pg_iload X d_L_law_53 rfl ?_
    refine pg_aload_n X d_L_law_55 rfl ?_
    refine pg_alen X d_L_law_56 (px_rd_r hsc) ?_
    refine pg_iconst X (5) d_L_law_57 (by decide) ?_
    refine pg_isub X d_L_law_58 ?_
    refine pg_icmp_gt X d_L_law_59 (fun c1 => ?_) (fun c1 => ?_)
    · exact kE i nc ns x5 x6 π (by omega) (by omega)
    · rw [Int32.lt_iff_toInt_lt, e5, nI_toInt (by omega)] at c1
      refine law_turn X A Hc hfl hR Rl hsc (by omega) (by omega) (by omega) (by omega) (fun x5 x6 π' R' => ?_)
      refine pg_iinc4 X d_L_law_1409 ?_
      refine pg_goto X d_L_law_1412 ?_
      have ei : nI i + Int32.ofInt 5 = nI (i + 5) := nI_add i 5
      rw [ei]
      exact ih (i + 5) (nc + 2) (ns + 12) x5 x6 π' (by omega) (by omega) (by omega) (by omega) R'
theorem cb_one {e : px_E} : CB π.1 1 (fun _ => e) π (px_nw π e) := by
  refine ⟨fun k hk => ?_, rfl, fun a ha => px_nw_ne (by omega)⟩
  have : k = 0 := by omega
  subst this
  exact px_nw_self
theorem law_main (X : px_X Γ G code "VisitorStepsLaw") (A : GA G) (Hc : CAT G) (hfl : FL Γ.l) (hR : Γ.R = room_1) (hsc : G.ρ sa = some (.inl (.int, N, .inl f))) (hN : N ≤ 2563)
    (kE : ∀ z zm zo i nc ns x5 x6 π, nc ≤ Γ.R.cells → ns ≤ Γ.R.slots → px_G Γ G Q true nc ns 1415 [some (.ref sa), some (.ref z), some (.ref zm), some (.ref zo), some (.int (nI i)), x5, x6] [] π) :
    px_G Γ G Q true 0 0 0 [some (.ref sa), none, none, none, none, none, none] [] π := by
  have hG := A.1
  refine pg_new X (ci := 3) (fs := [.null, .null, .null, .null]) (hG.c rfl) (fun w h => hG.u h (tw_V w h)) tt_V (hG.t (lm_1 (List.mem_of_getElem? (i := 15) rfl))) (hG.t (lm_1 (List.mem_of_getElem? (i := 16) rfl))) (hG.t (lm_1 (List.mem_of_getElem? (i := 1) rfl))) d_L_law_0 rfl (by decide) (by rw [hR]; decide) (by rw [hR]; decide) ?_
  refine pg_dup X d_L_law_3 rfl ?_
  refine pg_aload_n X d_L_law_4 rfl ?_
  refine pg_iconst X (0) d_L_law_5 (by decide) ?_
  refine pz_S (As := [.ref sa, .int (nI 0)]) X d_L_law_6 (cw_76 hG) (sw_76 hG) rfl rfl (Nat.le_of_ble_eq_true rfl) (by rw [hR]; exact ⟨by decide, by decide⟩) (by decide) (by rw [hR]; decide) (by rw [hR]; decide) (t_L_cell (m := 0) A hsc (by omega) (by decide) ?_)
  refine pg_aload_n X d_L_law_9 rfl ?_
  refine pg_iconst X (1) d_L_law_10 (by decide) ?_
  refine pz_S (As := [.ref sa, .int (nI 1)]) X d_L_law_11 (cw_76 hG) (sw_76 hG) rfl rfl (Nat.le_of_ble_eq_true rfl) (by rw [hR]; exact ⟨by decide, by decide⟩) (by decide) (by rw [hR]; decide) (by rw [hR]; decide) (t_L_cell (m := 1) A hsc (by omega) (by decide) ?_)
  refine pg_aload_n X d_L_law_14 rfl ?_
  refine pg_iconst X (2) d_L_law_15 (by decide) ?_
  refine pz_S (As := [.ref sa, .int (nI 2)]) X d_L_law_16 (cw_76 hG) (sw_76 hG) rfl rfl (Nat.le_of_ble_eq_true rfl) (by rw [hR]; exact ⟨by decide, by decide⟩) (by decide) (by rw [hR]; decide) (by rw [hR]; decide) (t_L_cell (m := 2) A hsc (by omega) (by decide) ?_)
  refine pz_I (As := [_, _, _]) X d_L_law_19 (cw_82 hG) rfl (iw_82 hG) rfl rfl (Nat.le_of_ble_eq_true rfl) (by rw [hR]; exact ⟨by decide, by decide⟩) (by decide) (by rw [hR]; decide) (by rw [hR]; decide) (t_V_init A cb_one rfl (fun wd ht π1 ew eh hw hh V1 s1 b1 => ?_))
  refine pg_astore1 X d_L_law_22 ?_
  refine pg_new X (ci := 4) (fs := [.int 0, .int 0, .int 0, .int 0, .null, .int 0, .null, .null, .null, .null, .int 0, .null, .int 0, .int 0, .int 0, .null, .null, .null, .int 0, .null, .null, .null, .null, .null, .null, .null, .null, .null, .null, .null, .null]) (hG.c rfl) (fun w h => hG.u h (tw_M w h)) tt_M (hG.t (lm_3 (List.mem_of_getElem? (i := 148) rfl))) (hG.t (lm_3 (List.mem_of_getElem? (i := 149) rfl))) (hG.t (lm_1 (List.mem_of_getElem? (i := 7) rfl))) d_L_law_23 rfl (by decide) (by rw [hR]; decide) (by rw [hR]; decide) ?_
  refine pg_dup X d_L_law_26 rfl ?_
  refine pg_aload_n X d_L_law_27 rfl ?_
  refine pg_iconst X (0) d_L_law_28 (by decide) ?_
  refine pz_S (As := [.ref sa, .int (nI 0)]) X d_L_law_29 (cw_76 hG) (sw_76 hG) rfl rfl (Nat.le_of_ble_eq_true rfl) (by rw [hR]; exact ⟨by decide, by decide⟩) (by decide) (by rw [hR]; decide) (by rw [hR]; decide) (t_L_cell (m := 0) A hsc (by omega) (by decide) ?_)
  refine pg_aload_n X d_L_law_32 rfl ?_
  refine pg_iconst X (1) d_L_law_33 (by decide) ?_
  refine pz_S (As := [.ref sa, .int (nI 1)]) X d_L_law_34 (cw_76 hG) (sw_76 hG) rfl rfl (Nat.le_of_ble_eq_true rfl) (by rw [hR]; exact ⟨by decide, by decide⟩) (by decide) (by rw [hR]; decide) (by rw [hR]; decide) (t_L_cell (m := 1) A hsc (by omega) (by decide) ?_)
  refine pg_aload_n X d_L_law_37 rfl ?_
  refine pg_iconst X (2) d_L_law_38 (by decide) ?_
  refine pz_S (As := [.ref sa, .int (nI 2)]) X d_L_law_39 (cw_76 hG) (sw_76 hG) rfl rfl (Nat.le_of_ble_eq_true rfl) (by rw [hR]; exact ⟨by decide, by decide⟩) (by decide) (by rw [hR]; decide) (by rw [hR]; decide) (t_L_cell (m := 2) A hsc (by omega) (by decide) ?_)
  refine pz_I (As := [_, _, _]) X d_L_law_42 (cw_87 hG) rfl (iw_87 hG) rfl rfl (Nat.le_of_ble_eq_true rfl) (by rw [hR]; exact ⟨by decide, by decide⟩) (by decide) (by rw [hR]; decide) (by rw [hR]; decide) (t_M_init A cb_one rfl (fun μ π3 M1 R1 s3 b3 => ?_))
  refine pg_astore2 X d_L_law_45 ?_
  refine pg_iconst X (1) d_L_law_46 (by decide) ?_
  refine pg_newl X (hG.t (lm_4 (List.mem_of_getElem? (i := 192) rfl))) d_L_law_47 (by decide) (N := 1) rfl (by decide) (by rw [hR]; decide) (by rw [hR]; decide) ?_
  refine pg_astore3 X d_L_law_49 ?_
  refine pg_iconst X (3) d_L_law_50 (by decide) ?_
  refine pg_istore4 X d_L_law_51 ?_
  rw [ew, eh] at M1
  have Rl : RL π.1 π1.1 π3.1 (px_nw π3 (.inl (.long, 1, .inr (.inr (fun _ => 0))))) := by
    refine ⟨_, _, _, μ, _, fun _ => 0, wd, ht, 0, 0, 0, 0, ⟨by omega, by omega⟩, V1.cg (fun a h1 h2 => ?_), RM.cg R1 (fun a h1 h2 => px_nw_ne (by omega)), px_nw_self, RE.i0 hw hh M1⟩
    rw [px_nw_ne (by omega), b3 a (by omega)]
  have e3 : (3 : Int32) = nI 3 := rfl
  rw [e3]
  exact law_loop X A Hc hfl hR hsc hN (kE _ _ _) 513 3 _ _ none none _ (by omega) (by decide) (by rw [hR]; decide) (by rw [hR]; decide) Rl
end LMA
