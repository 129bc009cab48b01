/-! CONSTRUCTORS: Visitor, House, Walk, VisitorSteps -/
section INI
variable {l : Launch} {G : px_Cg} {π π0 π1 : px_H} {K : Option Value ⊕ String → px_H → Prop} {z zh zw n m k wd ht : Nat} {f g : Nat → px_E}
theorem CB.cg (C : CB z m f π0 π) (h : ∀ k, k < m → f k = g k) : CB z m g π0 π := ⟨fun k hk => by rw [← h k hk]; exact C.1 k hk, C.2⟩
theorem CB.down (C : CB z (m + 1) f π0 π) : CB (z + m) 1 (fun _ => f m) π π := ⟨fun k hk => by
  have : k = 0 := by omega
  subst this
  exact C.1 m (by omega), by have := C.2.1; omega, fun _ _ => rfl⟩
theorem CB.up (C : CB z (m + 1) f π0 π) (D : CB (z + m) k g π π1) : CB z (m + k) (fun j => if j < m then f j else g (j - m)) π0 π1 := by
  refine ⟨fun j hj => ?_, by have := D.2.1; omega, fun a ha => (D.2.2 a (by omega)).trans (C.2.2 a ha)⟩
  by_cases h : j < m
  · show π1.2 (z + j) = some (if j < m then f j else g (j - m))
    rw [if_pos h, D.2.2 _ (by omega)]
    exact C.1 j (by omega)
  · show π1.2 (z + j) = some (if j < m then f j else g (j - m))
    rw [if_neg h]
    have := D.1 (j - m) (by omega)
    rw [show z + m + (j - m) = z + j by omega] at this
    exact this
def vi0 : px_E := .inr (1, [.int 0, .int 6, .int 0, .int 0, .int 0, .int 0, .int (-1), .int 0, .int 0, .int 0])
theorem t_P_init (A : GA G) (C : CB z 1 f π0 π) (h0 : f 0 = .inr (1, [.int 0, .int 0, .int 0, .int 0, .int 0, .int 0, .int 0, .int 0, .int 0, .int 0])) (kk : ∀ π1, CB z 1 (fun _ => vi0) π0 π1 → K (.inl none) π1) :
    px_P l G y_P_init b_P_init 1 none { frames := 1, cells := 0, slots := 0, locals := 12 } true [.ref z] π K := by
  have hG := A.1
  have hZ := A.2.1
  refine px_P.intro (by decide) hZ (by simp [Value.category]) (Nat.le_of_ble_eq_true rfl) rfl ?_
  intro Γ hl hR X Y hnm hs hbel
  subst hl
  refine pg_w ?_
  have C := C.cg (g := fun _ => .inr (1, [.int 0, .int 0, .int 0, .int 0, .int 0, .int 0, .int 0, .int 0, .int 0, .int 0])) (fun k hk => by rw [show k = 0 by omega]; exact h0)
  refine pg_aload_n X d_P_init_0 rfl ?_
  refine pn_obj X (hG.t (lm_1 (List.mem_of_getElem? (i := 114) rfl))) (hG.t (lm_1 (List.mem_of_getElem? (i := 21) rfl))) (hG.t (lm_1 (List.mem_of_getElem? (i := 22) rfl))) d_P_init_1 (by rw [hR]; decide) (by rw [hR]; decide) ?_
  refine pg_aload_n X d_P_init_4 rfl ?_
  refine pg_iconst X (0) d_P_init_5 (by decide) ?_
  refine pn_put X C (f_P_9 hG) (ct_P hG) (nf_P_second hG) rfl rfl d_P_init_6 (j := 0) (by decide) rfl (fun π1 C => ?_)
  refine pg_aload_n X d_P_init_9 rfl ?_
  refine pg_bipush X (6) d_P_init_10 (by decide) ?_
  refine pn_put X C (f_P_15 hG) (ct_P hG) (nf_P_door hG) rfl rfl d_P_init_12 (j := 0) (by decide) rfl (fun π1 C => ?_)
  refine pg_aload_n X d_P_init_15 rfl ?_
  refine pg_iconst X (0) d_P_init_16 (by decide) ?_
  refine pn_put X C (f_P_18 hG) (ct_P hG) (nf_P_group hG) rfl rfl d_P_init_17 (j := 0) (by decide) rfl (fun π1 C => ?_)
  refine pg_aload_n X d_P_init_20 rfl ?_
  refine pg_iconst X (0) d_P_init_21 (by decide) ?_
  refine pn_put X C (f_P_21 hG) (ct_P hG) (nf_P_key hG) rfl rfl d_P_init_22 (j := 0) (by decide) rfl (fun π1 C => ?_)
  refine pg_aload_n X d_P_init_25 rfl ?_
  refine pg_iconst X (0) d_P_init_26 (by decide) ?_
  refine pn_put X C (f_P_24 hG) (ct_P hG) (nf_P_state hG) rfl rfl d_P_init_27 (j := 0) (by decide) rfl (fun π1 C => ?_)
  refine pg_aload_n X d_P_init_30 rfl ?_
  refine pg_iconst X (0) d_P_init_31 (by decide) ?_
  refine pn_put X C (f_P_27 hG) (ct_P hG) (nf_P_cell hG) rfl rfl d_P_init_32 (j := 0) (by decide) rfl (fun π1 C => ?_)
  refine pg_aload_n X d_P_init_35 rfl ?_
  refine pg_iconst X (-1) d_P_init_36 (by decide) ?_
  refine pn_put X C (f_P_30 hG) (ct_P hG) (nf_P_goal hG) rfl rfl d_P_init_37 (j := 0) (by decide) rfl (fun π1 C => ?_)
  refine pg_aload_n X d_P_init_40 rfl ?_
  refine pg_iconst X (0) d_P_init_41 (by decide) ?_
  refine pn_put X C (f_P_33 hG) (ct_P hG) (nf_P_looked hG) rfl rfl d_P_init_42 (j := 0) (by decide) rfl (fun π1 C => ?_)
  refine pg_aload_n X d_P_init_45 rfl ?_
  refine pg_iconst X (0) d_P_init_46 (by decide) ?_
  refine pn_put X C (f_P_36 hG) (ct_P hG) (nf_P_seenBits hG) rfl rfl d_P_init_47 (j := 0) (by decide) rfl (fun π1 C => ?_)
  refine pg_aload_n X d_P_init_50 rfl ?_
  refine pg_iconst X (0) d_P_init_51 (by decide) ?_
  refine pn_put X C (f_P_39 hG) (ct_P hG) (nf_P_seenCount hG) rfl rfl d_P_init_52 (j := 0) (by decide) rfl (fun π1 C => ?_)
  exact pg_vret X Y d_P_init_55 (by decide) (Nat.zero_le _) (Nat.zero_le _) (kk _ (C.cg (fun k hk => by rw [show k = 0 by omega]; rfl)))
def hI0 (wd ht : Nat) (sd : Int32) : Nat → Nat → Int32 := fun r i => if r = 0 then (match i with | 0 => nI wd | 1 => nI ht | 2 => sd | 5 => 16 | 6 => 6 | _ => 0) else if r < 6 then 0 else -1
theorem t_H_init (A : GA G) (C : CB zh 1 f π0 π) (h0 : f 0 = .inr (0, [.int 0, .int 0, .int 0, .null, .null, .null, .null, .int 0, .int 0, .int 0, .int 0, .null, .null])) (hn : n = 12 * ht) (hht : ht ≤ 12) {sd : Int32} (kk : ∀ π1, CB zh 17 (hc zh n (hI0 wd ht sd)) π0 π1 → K (.inl none) π1) :
    px_P l G y_H_init b_H_init 6 none { frames := 1, cells := 16, slots := 1760, locals := 24 } true [.ref zh, .int (nI wd), .int (nI ht), .int sd] π K := by
  have hG := A.1
  have hZ := A.2.1
  refine px_P.intro (by decide) hZ (by simp [Value.category]) (Nat.le_of_ble_eq_true rfl) rfl ?_
  intro Γ hl hR X Y hnm hs hbel
  subst hl
  refine pg_w ?_
  have C := C.cg (g := fun _ => .inr (0, [.int 0, .int 0, .int 0, .null, .null, .null, .null, .int 0, .int 0, .int 0, .int 0, .null, .null])) (fun k hk => by rw [show k = 0 by omega]; exact h0)
  have hb : n ≤ 144 := by omega
  have e12 : nI ht * 12 = nI n := by
    have e : (12 : Int32) = nI 12 := rfl
    rw [e, pk_mul, hn, Nat.mul_comm]
  refine pg_aload_n X d_H_init_0 rfl ?_
  refine pn_obj X (hG.t (lm_1 (List.mem_of_getElem? (i := 38) rfl))) (hG.t (lm_1 (List.mem_of_getElem? (i := 21) rfl))) (hG.t (lm_1 (List.mem_of_getElem? (i := 22) rfl))) d_H_init_1 (by rw [hR]; decide) (by rw [hR]; decide) ?_
  refine pg_aload_n X d_H_init_4 rfl ?_
  refine pg_bipush X (10) d_H_init_5 (by decide) ?_
  refine pn_newa X C rfl (Or.inl rfl) (hG.t (lm_1 (List.mem_of_getElem? (i := 100) rfl))) d_H_init_7 (by decide) (N := 10) rfl (by first | decide | omega) (by rw [hR]; first | decide | (dsimp only [px_rm]; omega)) (by rw [hR]; first | decide | (dsimp only [px_rm]; omega)) (fun π1 C => ?_)
  refine pn_puF X C (f_H_9 hG) (ct_H hG) (nf_H_goalCell hG) hnm (fun r h => by rw [hG.2] at h; cases h; rfl) rfl rfl d_H_init_9 (j := 0) (by decide) rfl (by rw [hG.2]; exact hG.t (lm_1 (List.mem_of_getElem? (i := 53) rfl))) (fun π1 C => ?_)
  refine pg_aload_n X d_H_init_12 rfl ?_
  refine pg_bipush X (6) d_H_init_13 (by decide) ?_
  refine pn_newa X C rfl (Or.inl rfl) (hG.t (lm_1 (List.mem_of_getElem? (i := 100) rfl))) d_H_init_15 (by decide) (N := 6) rfl (by first | decide | omega) (by rw [hR]; first | decide | (dsimp only [px_rm]; omega)) (by rw [hR]; first | decide | (dsimp only [px_rm]; omega)) (fun π1 C => ?_)
  refine pn_puF X C (f_H_15 hG) (ct_H hG) (nf_H_interest hG) hnm (fun r h => by rw [hG.2] at h; cases h; rfl) rfl rfl d_H_init_17 (j := 0) (by decide) rfl (by rw [hG.2]; exact hG.t (lm_1 (List.mem_of_getElem? (i := 55) rfl))) (fun π1 C => ?_)
  refine pg_aload_n X d_H_init_20 rfl ?_
  refine pg_bipush X (6) d_H_init_21 (by decide) ?_
  refine pn_newa X C rfl (Or.inl rfl) (hG.t (lm_1 (List.mem_of_getElem? (i := 100) rfl))) d_H_init_23 (by decide) (N := 6) rfl (by first | decide | omega) (by rw [hR]; first | decide | (dsimp only [px_rm]; omega)) (by rw [hR]; first | decide | (dsimp only [px_rm]; omega)) (fun π1 C => ?_)
  refine pn_puF X C (f_H_18 hG) (ct_H hG) (nf_H_stay hG) hnm (fun r h => by rw [hG.2] at h; cases h; rfl) rfl rfl d_H_init_25 (j := 0) (by decide) rfl (by rw [hG.2]; exact hG.t (lm_1 (List.mem_of_getElem? (i := 58) rfl))) (fun π1 C => ?_)
  refine pg_aload_n X d_H_init_28 rfl ?_
  refine pg_iconst X (0) d_H_init_29 (by decide) ?_
  refine pn_put X C (f_H_21 hG) (ct_H hG) (nf_H_things hG) rfl rfl d_H_init_30 (j := 0) (by decide) rfl (fun π1 C => ?_)
  refine pg_aload_n X d_H_init_33 rfl ?_
  refine pg_iconst X (0) d_H_init_34 (by decide) ?_
  refine pn_put X C (f_H_25 hG) (ct_H hG) (nf_H_doors hG) rfl rfl d_H_init_35 (j := 0) (by decide) rfl (fun π1 C => ?_)
  refine pg_aload_n X d_H_init_38 rfl ?_
  refine pg_bipush X (16) d_H_init_39 (by decide) ?_
  refine pn_put X C (f_H_28 hG) (ct_H hG) (nf_H_room hG) rfl rfl d_H_init_41 (j := 0) (by decide) rfl (fun π1 C => ?_)
  refine pg_aload_n X d_H_init_44 rfl ?_
  refine pg_bipush X (6) d_H_init_45 (by decide) ?_
  refine pn_put X C (f_H_31 hG) (ct_H hG) (nf_H_patience hG) rfl rfl d_H_init_47 (j := 0) (by decide) rfl (fun π1 C => ?_)
  refine pg_aload_n X d_H_init_50 rfl ?_
  refine pg_iload_n X d_H_init_51 rfl ?_
  refine pn_puF X C (f_H_34 hG) (ct_H hG) (nf_H_width hG) hnm (fun r h => by rw [hG.2] at h; cases h; rfl) rfl rfl d_H_init_52 (j := 0) (by decide) rfl (by rw [hG.2]; exact hG.t (lm_1 (List.mem_of_getElem? (i := 44) rfl))) (fun π1 C => ?_)
  refine pg_aload_n X d_H_init_55 rfl ?_
  refine pg_iload_n X d_H_init_56 rfl ?_
  refine pn_puF X C (f_H_37 hG) (ct_H hG) (nf_H_height hG) hnm (fun r h => by rw [hG.2] at h; cases h; rfl) rfl rfl d_H_init_57 (j := 0) (by decide) rfl (by rw [hG.2]; exact hG.t (lm_1 (List.mem_of_getElem? (i := 46) rfl))) (fun π1 C => ?_)
  refine pg_aload_n X d_H_init_60 rfl ?_
  refine pg_iload_n X d_H_init_61 rfl ?_
  refine pn_puF X C (f_H_40 hG) (ct_H hG) (nf_H_seed hG) hnm (fun r h => by rw [hG.2] at h; cases h; rfl) rfl rfl d_H_init_62 (j := 0) (by decide) rfl (by rw [hG.2]; exact hG.t (lm_1 (List.mem_of_getElem? (i := 48) rfl))) (fun π1 C => ?_)
  refine pg_iload_n X d_H_init_65 rfl ?_
  refine pg_bipush X (12) d_H_init_66 (by decide) ?_
  refine pg_imul X d_H_init_68 ?_
  rw [e12]
  refine pg_istore4 X d_H_init_69 ?_
  refine pg_aload_n X d_H_init_71 rfl ?_
  refine pg_iload X d_H_init_72 rfl ?_
  refine pn_newa X C rfl (Or.inr rfl) (hG.t (lm_1 (List.mem_of_getElem? (i := 101) rfl))) d_H_init_74 (nI_pos (by omega)) (nI_clamp (by omega)) (by first | decide | omega) (by rw [hR]; first | decide | (dsimp only [px_rm]; omega)) (by rw [hR]; first | decide | (dsimp only [px_rm]; omega)) (fun π1 C => ?_)
  refine pn_puF X C (f_H_43 hG) (ct_H hG) (nf_H_wall hG) hnm (fun r h => by rw [hG.2] at h; cases h; rfl) rfl rfl d_H_init_76 (j := 0) (by decide) rfl (by rw [hG.2]; exact hG.t (lm_1 (List.mem_of_getElem? (i := 51) rfl))) (fun π1 C => ?_)
  refine pg_aload_n X d_H_init_79 rfl ?_
  refine pg_bipush X (10) d_H_init_80 (by decide) ?_
  refine pg_iload X d_H_init_82 rfl ?_
  refine pn_mna X C (hG.t (lm_1 (List.mem_of_getElem? (i := 39) rfl))) (hG.t (lm_1 (List.mem_of_getElem? (i := 40) rfl))) (hG.t (lm_1 (List.mem_of_getElem? (i := 100) rfl))) d_H_init_84 (by decide) (nI_pos (by omega)) (N := 10) rfl (nI_clamp (by omega)) (by decide) (by omega) (by rw [hR]; dsimp only; omega) (by rw [hR]; dsimp only; omega) (fun π1 C => ?_)
  refine pn_puF X C (f_H_49 hG) (ct_H hG) (nf_H_distances hG) hnm (fun r h => by rw [hG.2] at h; cases h; rfl) rfl rfl d_H_init_88 (j := 0) (by decide) rfl (by rw [hG.2]; exact hG.t (lm_1 (List.mem_of_getElem? (i := 71) rfl))) (fun π1 C => ?_)
  refine pg_aload_n X d_H_init_91 rfl ?_
  refine pg_iload X d_H_init_92 rfl ?_
  refine pn_newa X C rfl (Or.inl rfl) (hG.t (lm_1 (List.mem_of_getElem? (i := 100) rfl))) d_H_init_94 (nI_pos (by omega)) (nI_clamp (by omega)) (by first | decide | omega) (by rw [hR]; first | decide | (dsimp only [px_rm]; omega)) (by rw [hR]; first | decide | (dsimp only [px_rm]; omega)) (fun π1 C => ?_)
  refine pn_puF X C (f_H_52 hG) (ct_H hG) (nf_H_queue hG) hnm (fun r h => by rw [hG.2] at h; cases h; rfl) rfl rfl d_H_init_96 (j := 0) (by decide) rfl (by rw [hG.2]; exact hG.t (lm_1 (List.mem_of_getElem? (i := 72) rfl))) (fun π1 C => ?_)
  have C := C.cg (g := fun k => if 6 ≤ k ∧ k < 16 then .inl (.int, n, .inl (fun _ => 0)) else hc zh n (hI0 wd ht sd) k) (fun k hk => by
    obtain rfl | rfl | rfl | rfl | rfl | rfl | rfl | rfl | rfl | rfl | rfl | rfl | rfl | rfl | rfl | rfl | rfl : k = 0 ∨ k = 1 ∨ k = 2 ∨ k = 3 ∨ k = 4 ∨ k = 5 ∨ k = 6 ∨ k = 7 ∨ k = 8 ∨ k = 9 ∨ k = 10 ∨ k = 11 ∨ k = 12 ∨ k = 13 ∨ k = 14 ∨ k = 15 ∨ k = 16 := by omega
    all_goals rfl)
  have loop : ∀ r i π1, i + r = 10 → CB zh 17 (fun k => if 6 + i ≤ k ∧ k < 16 then .inl (.int, n, .inl (fun _ => 0)) else hc zh n (hI0 wd ht sd) k) π0 π1 → px_G Γ G (px_Q Γ G true K) true 16 (0 + 10 + 6 + 6 + n + 10 + 10 * n + n) 102 [some (.ref zh), some (.int (nI wd)), some (.int (nI ht)), some (.int sd), some (.int (nI n)), some (.int (nI i))] [] π1 := by
    intro r
    induction r with
    | zero =>
      intro i π1 hi C
      refine pg_iload X d_H_init_102 rfl ?_
      refine pg_bipush X (10) d_H_init_104 (by decide) ?_
      refine pg_icmp_ge X d_H_init_106 (fun c1 => ?_) (fun c1 => ?_)
      · exact pg_vret X Y d_H_init_126 (by decide) (by rw [hR]; decide) (by rw [hR]; dsimp only; omega) (kk π1 (C.cg (fun k hk => by rw [if_neg (by omega)])))
      · simp (disch := omega) only [Int32.lt_iff_toInt_lt, Int32.le_iff_toInt_le, nI_toInt, px_l0, px_l1, px_l2, px_l3, px_l4, px_l5, px_l6, px_l10, px_l11, px_l12, px_l16, px_l30, px_l100, px_l400] at c1
        omega
    | succ r ih =>
      intro i π1 hi C
      have ho : π1.2 zh = some (.inr (0, [.int (nI wd), .int (nI ht), .int sd, .ref (zh + 4), .ref (zh + 1), .ref (zh + 2), .ref (zh + 3), .int 0, .int 0, .int 16, .int 6, .ref (zh + 5), .ref (zh + 16)])) := C.at (k := 0) (by decide) (by rw [if_neg (by omega)]; rfl)
      have hds : π1.2 (zh + 5) = some (.inl (.array .int, 10, .inr (.inl (fun j => some (zh + 6 + j))))) := C.at (k := 5) (by decide) (by rw [if_neg (by omega)]; rfl)
      have hrow : π1.2 (zh + 6 + i) = some (.inl (.int, n, .inl (fun _ => 0))) := by
        rw [Nat.add_assoc]
        exact C.at (k := 6 + i) (by omega) (by rw [if_pos (by omega)])
      refine pg_iload X d_H_init_102 rfl ?_
      refine pg_bipush X (10) d_H_init_104 (by decide) ?_
      refine pg_icmp_ge X d_H_init_106 (fun c1 => ?_) (fun c1 => ?_)
      · simp (disch := omega) only [Int32.lt_iff_toInt_lt, Int32.le_iff_toInt_le, nI_toInt, px_l0, px_l1, px_l2, px_l3, px_l4, px_l5, px_l6, px_l10, px_l11, px_l12, px_l16, px_l30, px_l100, px_l400] at c1
        omega
      refine pg_aload_n X d_H_init_109 rfl ?_
      refine pg_getf X (f_H_49 hG) d_H_init_110 (px_rd_of (by assumption)) rfl ?_
      refine pg_iload X d_H_init_113 rfl ?_
      refine pg_aaldN X d_H_init_115 (px_rd_of (by assumption)) rfl (by first | assumption | omega) (by first | assumption | omega) (by rfl) ?_
      refine pg_iconst X (-1) d_H_init_116 (by decide) ?_
      refine pc_S (As := [_, _]) X Y d_H_init_117 (c_H_55 hG) (s_A_fill hG) rfl rfl (Nat.le_of_ble_eq_true rfl) (by rw [hR]; exact ⟨by decide, by decide⟩) (by decide) (by decide) (by rw [hR]; first | decide | (dsimp only [px_rm]; omega)) (by rw [hR]; first | decide | (dsimp only [px_rm]; omega)) (t_A_fill A (by omega) hrow ?_)
      refine pg_iinc5 X d_H_init_120 ?_
      refine pg_goto X d_H_init_123 ?_
      rw [nI_i1]
      have C2 := C.wr (k := 6 + i) (by omega) (e := .inl (.int, n, .inl (fun _ => -1)))
      rw [← Nat.add_assoc] at C2
      refine ih (i + 1) _ (by omega) (C2.cg (fun k hk => ?_))
      unfold fset
      by_cases q : k = 6 + i
      · subst q
        rw [if_pos rfl, if_neg (by omega), hc_ge (by omega)]
        have e : hI0 wd ht sd (6 + i) = fun _ => -1 := by
          funext j
          unfold hI0
          rw [if_neg (by omega), if_neg (by omega)]
        rw [e]
      · rw [if_neg q]
        show (if 6 + i ≤ k ∧ k < 16 then (.inl (.int, n, .inl (fun _ => 0)) : px_E) else hc zh n (hI0 wd ht sd) k) = _
        by_cases q2 : 6 + i ≤ k ∧ k < 16
        · rw [if_pos q2, if_pos (by omega)]
        · rw [if_neg q2, if_neg (by omega)]
  refine pg_iconst X (0) d_H_init_99 (by decide) ?_
  refine pg_istore5 X d_H_init_100 ?_
  exact loop 10 0 _ rfl C
end INI
