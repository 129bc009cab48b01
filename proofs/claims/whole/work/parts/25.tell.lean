/-! WALK: telling, fleeing, starting anew, copies -/
def upr (w : Nat → Nat → Int32) (r : Nat) (f : Nat → Int32) : Nat → Nat → Int32 := fun r' => if r' = r then f else w r'
theorem upr_s {w : Nat → Nat → Int32} {r : Nat} {f : Nat → Int32} : upr w r f r = f := by simp [upr]
theorem upr_n {w : Nat → Nat → Int32} {r r' : Nat} {f : Nat → Int32} (h : r' ≠ r) : upr w r f r' = w r' := by simp [upr, h]
section CPY
variable {l : Launch} {G : px_Cg} {π π0 : px_H} {K : Option Value ⊕ String → px_H → Prop} {zh zw zt n nt nd wd ht tl : Nat} {h w wt : Nat → Nat → Int32}
theorem RW.wr (W : RW zw zh n w π) {kk r m : Nat} (hr : (kk = 4 ∧ r = 1 ∧ m = n) ∨ (kk = 5 ∧ r = 2 ∧ m = n) ∨ (kk = 2 ∧ r = 3 ∧ m = 10) ∨ (kk = 3 ∧ r = 4 ∧ m = 10)) {f : Nat → Int32} : RW zw zh n (upr w r f) (px_wr π (zw + kk) (.inl (.int, m, .inl f))) := by
  refine px_blk.wr W (by omega) ?_ ?_
  · rcases hr with ⟨rfl, rfl, rfl⟩ | ⟨rfl, rfl, rfl⟩ | ⟨rfl, rfl, rfl⟩ | ⟨rfl, rfl, rfl⟩ <;> simp only [wc, upr_s]
  · intro j hj hne
    exact wc_row (fun q => upr_n (by omega)) (fun q => upr_n (by omega)) (fun q => upr_n (by omega)) (fun q => upr_n (by omega)) (fun q => upr_n (by omega)) (fun q => upr_n (by omega))
theorem RW.wvr (W : RW zw zh n w π) {i : Nat} (hi : i < 16) {f : Nat → Int32} : RW zw zh n (upr w (6 + i) f) (px_wr π (zw + 6 + i) (.inr (1, [.int (f 0), .int (f 1), .int (f 2), .int (f 3), .int (f 4), .int (f 5), .int (f 6), .int (f 7), .int (f 8), .int (f 9)]))) := by
  rw [Nat.add_assoc]
  refine px_blk.wr W (by omega) ?_ ?_
  · rw [wc_ge, upr_s]
  · intro j hj hne
    exact wc_row (fun q => upr_n (by omega)) (fun q => upr_n (by omega)) (fun q => upr_n (by omega)) (fun q => upr_n (by omega)) (fun q => upr_n (by omega)) (fun q => upr_n (by omega))
def tlW (w : Nat → Nat → Int32) (tl : Nat) (s d g : Int32) : Nat → Nat → Int32 :=
  let w1 := up2 w (6 + tl) 0 s
  let w2 := up2 w1 (6 + tl) 1 d
  let w3 := up2 w2 (6 + tl) 2 g
  let w4 := up2 w3 (6 + tl) 3 (keyV w3 tl g)
  up2 w4 0 0 (w4 0 0 + 1)
theorem t_K_tell (A : GA G) (S : SW zw zh n w h π0 π) (h0 : w 0 0 = nI tl) (ht : tl < 16) {s d g : Int32} (k : ∀ π1, SW zw zh n (tlW w tl s d g) h π0 π1 → K (.inl (some (.int (nI tl)))) π1) :
    px_P l G y_K_tell b_K_tell 5 (some .int) (px_rm 1 22) true [.ref zw, .int s, .int d, .int g] π K := by
  have hG := A.1
  have hZ := A.2.1
  refine px_P.intro (by decide) hZ (by simp [Value.category]) (Nat.le_of_ble_eq_true rfl) rfl ?_
  intro Γ hl hR X Y hnm hs hbel
  subst hl
  refine pg_w ?_
  have ho := S.1.o
  have hvs := S.1.vs
  have hcr := S.1.cr
  have hsd := S.1.sd
  have hca := S.1.ca
  have hdn := S.1.dn
  have hh := S.2.1.o
  have hgc := S.2.1.gc
  have hit := S.2.1.it
  have hsy := S.2.1.sy
  have hv := S.1.v (i := tl) (by first | assumption | omega)
  rw [h0] at ho
  refine pg_aload_n X d_K_tell_0 rfl ?_
  refine pg_getf X (f_K_11 hG) d_K_tell_1 (px_rd_of (by assumption)) rfl ?_
  refine pg_aload_n X d_K_tell_4 rfl ?_
  refine pg_getf X (f_K_24 hG) d_K_tell_5 (px_rd_of (by assumption)) rfl ?_
  refine pg_aaldN X d_K_tell_8 (px_rd_of (by assumption)) rfl (by first | assumption | omega) (by first | assumption | omega) (by rfl) ?_
  refine pg_astore4 X d_K_tell_9 ?_
  refine pg_aload X d_K_tell_11 rfl ?_
  refine pg_iload_n X d_K_tell_13 rfl ?_
  refine pw_v X hG S (f_K_58 hG) (nf_P_second hG) d_K_tell_14 (by first | assumption | omega) (by decide) (fun π1 S => ?_)
  refine pg_aload X d_K_tell_17 rfl ?_
  refine pg_iload_n X d_K_tell_19 rfl ?_
  refine pw_v X hG S (f_K_61 hG) (nf_P_door hG) d_K_tell_20 (by first | assumption | omega) (by decide) (fun π1 S => ?_)
  refine pg_aload X d_K_tell_23 rfl ?_
  refine pg_iload_n X d_K_tell_25 rfl ?_
  refine pw_v X hG S (f_K_64 hG) (nf_P_group hG) d_K_tell_26 (by first | assumption | omega) (by decide) (fun π1 S => ?_)
  have h03 : up2 (up2 (up2 w (6 + tl) 0 s) (6 + tl) 1 d) (6 + tl) 2 g 0 0 = nI tl := by rw [up2_n (by omega), up2_n (by omega), up2_n (by omega)]; exact h0
  have ho3 := S.1.o
  refine pg_aload X d_K_tell_29 rfl ?_
  refine pg_aload_n X d_K_tell_31 rfl ?_
  refine pg_iload_n X d_K_tell_32 rfl ?_
  refine pc_V (ci := 2) (As := [_]) X Y d_K_tell_33 (c_K_67 hG) (i_K_keyOf hG) (v_K_keyOf hG) (fun r h => by rw [hG.2] at h; cases h; rfl) rfl rfl (Nat.le_of_ble_eq_true rfl) (by rw [hR]; exact ⟨by decide, by decide⟩) (by decide) (by decide) (by rw [hR]; first | decide | (dsimp only [px_rm]; omega)) (by rw [hR]; first | decide | (dsimp only [px_rm]; omega)) (px_rd_of (by assumption)) (t_K_keyOf A S.1 h03 (by omega) ?_)
  refine pw_v X hG S (f_K_71 hG) (nf_P_key hG) d_K_tell_36 (by first | assumption | omega) (by decide) (fun π1 S => ?_)
  have ho := S.1.o
  have hvs := S.1.vs
  have hcr := S.1.cr
  have hsd := S.1.sd
  have hca := S.1.ca
  have hdn := S.1.dn
  have hh := S.2.1.o
  have hgc := S.2.1.gc
  have hit := S.2.1.it
  have hsy := S.2.1.sy
  have hv := S.1.v (i := tl) (by first | assumption | omega)
  have h04 : up2 (up2 (up2 (up2 w (6 + tl) 0 s) (6 + tl) 1 d) (6 + tl) 2 g) (6 + tl) 3 (keyV (up2 (up2 (up2 w (6 + tl) 0 s) (6 + tl) 1 d) (6 + tl) 2 g) tl g) 0 0 = nI tl := by rw [up2_n (by omega)]; exact h03
  refine pg_aload_n X d_K_tell_39 rfl ?_
  refine pg_dup X d_K_tell_40 rfl ?_
  refine pg_getf X (f_K_24 hG) d_K_tell_41 (px_rd_of (by assumption)) rfl ?_
  refine pg_iconst X (1) d_K_tell_44 (by decide) ?_
  refine pg_iadd X d_K_tell_45 ?_
  refine pw_s X hG S (j := 0) rfl (f_K_24 hG) (nf_K_told hG) rfl rfl d_K_tell_46 (by decide) (fun π1 S => ?_)
  have hof := S.1.o
  have h05 : up2 (up2 (up2 (up2 (up2 w (6 + tl) 0 s) (6 + tl) 1 d) (6 + tl) 2 g) (6 + tl) 3 (keyV (up2 (up2 (up2 w (6 + tl) 0 s) (6 + tl) 1 d) (6 + tl) 2 g) tl g)) 0 0 (up2 (up2 (up2 (up2 w (6 + tl) 0 s) (6 + tl) 1 d) (6 + tl) 2 g) (6 + tl) 3 (keyV (up2 (up2 (up2 w (6 + tl) 0 s) (6 + tl) 1 d) (6 + tl) 2 g) tl g) 0 0 + 1) 0 0 - 1 = nI tl := by
    rw [up2_s, h04, nI_1]
    exact nI_pred tl
  refine pg_aload_n X d_K_tell_49 rfl ?_
  refine pg_getf X (f_K_24 hG) d_K_tell_50 (px_rd_of (by assumption)) rfl ?_
  refine pg_iconst X (1) d_K_tell_53 (by decide) ?_
  refine pg_isub X d_K_tell_54 ?_
  rw [h05]
  exact pg_iret X Y d_K_tell_55 rfl (by decide) (Nat.zero_le _) (Nat.zero_le _) (k _ S)
def flW (w : Nat → Nat → Int32) (tl : Nat) : Nat → Nat → Int32 := px_it (fun i w => trn w i (-1)) tl (up2 w 0 4 1)
theorem t_K_startFleeing (A : GA G) (S : SW zw zh n w h π0 π) (F : WF w wd ht nt nd tl) (k : ∀ π1, SW zw zh n (flW w tl) h π0 π1 → K (.inl none) π1) :
    px_P l G y_K_startFleeing b_K_startFleeing 2 none (px_rm 1 21) true [.ref zw] π K := by
  have hG := A.1
  have hZ := A.2.1
  refine px_P.intro (by decide) hZ (by simp [Value.category]) (Nat.le_of_ble_eq_true rfl) rfl ?_
  intro Γ hl hR X Y hnm hs hbel
  subst hl
  refine pg_w ?_
  have Ftl := F.2.1
  have F1 : WF (up2 w 0 4 1) wd ht nt nd tl := F.u0 (by decide)
  refine pg_aload_n X d_K_startFleeing_0 rfl ?_
  refine pg_iconst X (1) d_K_startFleeing_1 (by decide) ?_
  refine pw_s X hG S (j := 4) rfl (f_K_37 hG) (nf_K_fleeing hG) rfl rfl d_K_startFleeing_2 (by decide) (fun π1 S => ?_)
  unfold flW at k
  generalize up2 w 0 4 1 = w1 at S k F1
  have loop : ∀ f i, i + f = tl → ∀ π1, SW zw zh n (px_it (fun i w => trn w i (-1)) i w1) h π0 π1 → px_G Γ G (px_Q Γ G true K) true 0 0 7 [some (.ref zw), some (.int (nI i))] [] π1 := by
    intro f
    induction f with
    | zero =>
      intro i hi π1 S
      have ei : i = tl := by omega
      subst ei
      have F2 : WF (px_it (fun i w => trn w i (-1)) i w1) wd ht nt nd i := it_F F1 (fun i w hi F => F.tr1) i (Nat.le_refl _)
      have ho := S.1.o
      rw [F2.1] at ho
      refine pg_iload_n X d_K_startFleeing_7 rfl ?_
      refine pg_aload_n X d_K_startFleeing_8 rfl ?_
      refine pg_getf X (f_K_24 hG) d_K_startFleeing_9 (px_rd_of (by assumption)) rfl ?_
      refine pg_icmp_ge X d_K_startFleeing_12 (fun c1 => ?_) (fun c1 => ?_)
      · exact pg_vret X Y d_K_startFleeing_31 (by decide) (Nat.zero_le _) (Nat.zero_le _) (k _ S)
      · simp (disch := omega) only [Int32.lt_iff_toInt_lt, Int32.le_iff_toInt_le, nI_toInt, px_l0, px_l1, px_l2, px_l3, px_l4, px_l5, px_l6, px_l10, px_l11, px_l12, px_l16, px_l30, px_l100, px_l400] at c1
        omega
    | succ f ih =>
      intro i hi π1 S
      have F2 : WF (px_it (fun i w => trn w i (-1)) i w1) wd ht nt nd tl := it_F F1 (fun i w hi F => F.tr1) i (by omega)
      have ho := S.1.o
      rw [F2.1] at ho
      have hvs := S.1.vs
      have hv := S.1.v (i := i) (by omega)
      refine pg_iload_n X d_K_startFleeing_7 rfl ?_
      refine pg_aload_n X d_K_startFleeing_8 rfl ?_
      refine pg_getf X (f_K_24 hG) d_K_startFleeing_9 (px_rd_of (by assumption)) rfl ?_
      refine pg_icmp_ge X d_K_startFleeing_12 (fun c1 => ?_) (fun c1 => ?_)
      · simp (disch := omega) only [Int32.lt_iff_toInt_lt, Int32.le_iff_toInt_le, nI_toInt, px_l0, px_l1, px_l2, px_l3, px_l4, px_l5, px_l6, px_l10, px_l11, px_l12, px_l16, px_l30, px_l100, px_l400] at c1
        omega
      refine pg_aload_n X d_K_startFleeing_15 rfl ?_
      refine pg_getf X (f_K_11 hG) d_K_startFleeing_16 (px_rd_of (by assumption)) rfl ?_
      refine pg_iload_n X d_K_startFleeing_19 rfl ?_
      refine pg_aaldN X d_K_startFleeing_20 (px_rd_of (by assumption)) rfl (by first | assumption | omega) (by first | assumption | omega) (by rfl) ?_
      refine pg_iconst X (-1) d_K_startFleeing_21 (by decide) ?_
      refine pc_V (ci := 1) (As := [_]) X Y d_K_startFleeing_22 (c_K_93 hG) (i_P_turnTo hG) (v_P_turnTo hG) (fun r h => by rw [hG.2] at h; cases h; rfl) rfl rfl (Nat.le_of_ble_eq_true rfl) (by rw [hR]; exact ⟨by decide, by decide⟩) (by decide) (by decide) (by rw [hR]; first | decide | (dsimp only [px_rm]; omega)) (by rw [hR]; first | decide | (dsimp only [px_rm]; omega)) (px_rd_of (by assumption)) (t_turn A S (by omega) (fun π1 S => ?_))
      refine pg_iinc1 X d_K_startFleeing_25 ?_
      refine pg_goto X d_K_startFleeing_28 ?_
      rw [nI_i1]
      exact ih (i + 1) (by omega) π1 S
  refine pg_iconst X (0) d_K_startFleeing_5 (by decide) ?_
  refine pg_istore1 X d_K_startFleeing_6 ?_
  exact loop tl 0 (by omega) _ S
def gbI (i : Nat) (w : Nat → Nat → Int32) : Nat → Nat → Int32 := up2 (up2 (trn (up2 (up2 w (6 + i) 4 0) (6 + i) 5 0) i (-1)) (6 + i) 8 0) (6 + i) 9 0
theorem t_P_goBackToStart (A : GA G) (S : SW zw zh n w h π0 π) {i : Nat} (hi : i < 16) (k : ∀ π1, SW zw zh n (gbI i w) h π0 π1 → K (.inl none) π1) :
    px_P l G y_P_goBackToStart b_P_goBackToStart 1 none (px_rm 1 21) true [.ref (zw + 6 + i)] π K := by
  have hG := A.1
  have hZ := A.2.1
  refine px_P.intro (by decide) hZ (by simp [Value.category]) (Nat.le_of_ble_eq_true rfl) rfl ?_
  intro Γ hl hR X Y hnm hs hbel
  subst hl
  refine pg_w ?_
  refine pg_aload_n X d_P_goBackToStart_0 rfl ?_
  refine pg_iconst X (0) d_P_goBackToStart_1 (by decide) ?_
  refine pw_v X hG S (f_P_24 hG) (nf_P_state hG) d_P_goBackToStart_2 (by first | assumption | omega) (by decide) (fun π1 S => ?_)
  refine pg_aload_n X d_P_goBackToStart_5 rfl ?_
  refine pg_iconst X (0) d_P_goBackToStart_6 (by decide) ?_
  refine pw_v X hG S (f_P_27 hG) (nf_P_cell hG) d_P_goBackToStart_7 (by first | assumption | omega) (by decide) (fun π1 S => ?_)
  have hv := S.1.v hi
  refine pg_aload_n X d_P_goBackToStart_10 rfl ?_
  refine pg_iconst X (-1) d_P_goBackToStart_11 (by decide) ?_
  refine pc_V (ci := 1) (As := [_]) X Y d_P_goBackToStart_12 (c_P_42 hG) (i_P_turnTo hG) (v_P_turnTo hG) (fun r h => by rw [hG.2] at h; cases h; rfl) rfl rfl (Nat.le_of_ble_eq_true rfl) (by rw [hR]; exact ⟨by decide, by decide⟩) (by decide) (by decide) (by rw [hR]; first | decide | (dsimp only [px_rm]; omega)) (by rw [hR]; first | decide | (dsimp only [px_rm]; omega)) (px_rd_of (by assumption)) (t_turn A S hi (fun π1 S => ?_))
  refine pg_aload_n X d_P_goBackToStart_15 rfl ?_
  refine pg_iconst X (0) d_P_goBackToStart_16 (by decide) ?_
  refine pw_v X hG S (f_P_36 hG) (nf_P_seenBits hG) d_P_goBackToStart_17 (by first | assumption | omega) (by decide) (fun π1 S => ?_)
  refine pg_aload_n X d_P_goBackToStart_20 rfl ?_
  refine pg_iconst X (0) d_P_goBackToStart_21 (by decide) ?_
  refine pw_v X hG S (f_P_39 hG) (nf_P_seenCount hG) d_P_goBackToStart_22 (by first | assumption | omega) (by decide) (fun π1 S => ?_)
  exact pg_vret X Y d_P_goBackToStart_25 (by decide) (Nat.zero_le _) (Nat.zero_le _) (k _ S)
theorem gbI_F (F : WF w wd ht nt nd tl) (hw : 4 ≤ wd) (hh : 4 ≤ ht) {i : Nat} : WF (gbI i w) wd ht nt nd tl := by
  have h0 : inC wd ht 0 := ⟨by omega, by omega⟩
  exact ((((F.uv (by decide) (by decide) (by decide)).u5 h0).tr1).uv (by decide) (by decide) (by decide)).uv (by decide) (by decide) (by decide)
def gbW (w : Nat → Nat → Int32) (tl : Nat) : Nat → Nat → Int32 := up2 (up2 (up2 (upr (upr (upr (upr (px_it gbI tl w) 1 (fun _ => 0)) 2 (fun _ => 0)) 3 (fun _ => 0)) 4 (fun _ => 0)) 0 1 0) 0 2 0) 0 3 0
theorem SW.row (S : SW zw zh n w h π0 π) {kk r m : Nat} (hr : (kk = 4 ∧ r = 1 ∧ m = n) ∨ (kk = 5 ∧ r = 2 ∧ m = n) ∨ (kk = 2 ∧ r = 3 ∧ m = 10) ∨ (kk = 3 ∧ r = 4 ∧ m = 10)) {f : Nat → Int32} : SW zw zh n (upr w r f) h π0 (px_wr π (zw + kk) (.inl (.int, m, .inl f))) := S.step (by omega) (by omega) (S.1.wr hr)
theorem t_K_goBackToStart (A : GA G) (S : SW zw zh n w h π0 π) (B : HF h wd ht nt nd n) (F : WF w wd ht nt nd tl) (k : ∀ π1, SW zw zh n (gbW w tl) h π0 π1 → K (.inl none) π1) :
    px_P l G y_K_goBackToStart b_K_goBackToStart 2 none (px_rm 2 41) true [.ref zw] π K := by
  have hG := A.1
  have hZ := A.2.1
  refine px_P.intro (by decide) hZ (by simp [Value.category]) (Nat.le_of_ble_eq_true rfl) rfl ?_
  intro Γ hl hR X Y hnm hs hbel
  subst hl
  refine pg_w ?_
  have Ftl := F.2.1
  have Bn := B.2.2.2.2.2.2.2.2.1
  have Bw := B.2.2.2.2.1
  have Bh := B.2.2.2.2.2.1
  unfold gbW at k
  have loop : ∀ f i, i + f = tl → ∀ π1, SW zw zh n (px_it gbI i w) h π0 π1 → px_G Γ G (px_Q Γ G true K) true 0 0 2 [some (.ref zw), some (.int (nI i))] [] π1 := by
    intro f
    induction f with
    | zero =>
      intro i hi π1 S
      have ei : i = tl := by omega
      subst ei
      have F2 : WF (px_it gbI i w) wd ht nt nd i := it_F F (fun i w hi F => gbI_F F Bw.1 Bh.1) i (Nat.le_refl _)
      generalize px_it gbI i w = w2 at S k F2
      have ho := S.1.o
      rw [F2.1] at ho
      refine pg_iload_n X d_K_goBackToStart_2 rfl ?_
      refine pg_aload_n X d_K_goBackToStart_3 rfl ?_
      refine pg_getf X (f_K_24 hG) d_K_goBackToStart_4 (px_rd_of (by assumption)) rfl ?_
      refine pg_icmp_ge X d_K_goBackToStart_7 (fun c1 => ?_) (fun c1 => ?_)
      · clear ho
        have ho := S.1.o
        have ha := S.1.cr
        refine pg_aload_n X d_K_goBackToStart_25 rfl ?_
        refine pg_getf X (f_K_51 hG) d_K_goBackToStart_26 (px_rd_of (by assumption)) rfl ?_
        refine pg_iconst X (0) d_K_goBackToStart_29 (by decide) ?_
        refine pc_S (As := [_, _]) X Y d_K_goBackToStart_30 (c_K_87 hG) (s_A_fill hG) rfl rfl (Nat.le_of_ble_eq_true rfl) (by rw [hR]; exact ⟨by decide, by decide⟩) (by decide) (by decide) (by rw [hR]; first | decide | (dsimp only [px_rm]; omega)) (by rw [hR]; first | decide | (dsimp only [px_rm]; omega)) (t_A_fill A (by omega) ha ?_)
        have S := S.row (Or.inl ⟨rfl, rfl, rfl⟩) (f := fun _ => 0)
        have ho := S.1.o
        have ha := S.1.sd
        refine pg_aload_n X d_K_goBackToStart_33 rfl ?_
        refine pg_getf X (f_K_54 hG) d_K_goBackToStart_34 (px_rd_of (by assumption)) rfl ?_
        refine pg_iconst X (0) d_K_goBackToStart_37 (by decide) ?_
        refine pc_S (As := [_, _]) X Y d_K_goBackToStart_38 (c_K_87 hG) (s_A_fill hG) rfl rfl (Nat.le_of_ble_eq_true rfl) (by rw [hR]; exact ⟨by decide, by decide⟩) (by decide) (by decide) (by rw [hR]; first | decide | (dsimp only [px_rm]; omega)) (by rw [hR]; first | decide | (dsimp only [px_rm]; omega)) (t_A_fill A (by omega) ha ?_)
        have S := S.row (Or.inr (Or.inl ⟨rfl, rfl, rfl⟩)) (f := fun _ => 0)
        have ho := S.1.o
        have ha := S.1.ca
        refine pg_aload_n X d_K_goBackToStart_41 rfl ?_
        refine pg_getf X (f_K_17 hG) d_K_goBackToStart_42 (px_rd_of (by assumption)) rfl ?_
        refine pg_iconst X (0) d_K_goBackToStart_45 (by decide) ?_
        refine pc_S (As := [_, _]) X Y d_K_goBackToStart_46 (c_K_87 hG) (s_A_fill hG) rfl rfl (Nat.le_of_ble_eq_true rfl) (by rw [hR]; exact ⟨by decide, by decide⟩) (by decide) (by decide) (by rw [hR]; first | decide | (dsimp only [px_rm]; omega)) (by rw [hR]; first | decide | (dsimp only [px_rm]; omega)) (t_A_fill A (by omega) ha ?_)
        have S := S.row (Or.inr (Or.inr (Or.inl ⟨rfl, rfl, rfl⟩))) (f := fun _ => 0)
        have ho := S.1.o
        have ha := S.1.dn
        refine pg_aload_n X d_K_goBackToStart_49 rfl ?_
        refine pg_getf X (f_K_21 hG) d_K_goBackToStart_50 (px_rd_of (by assumption)) rfl ?_
        refine pg_iconst X (0) d_K_goBackToStart_53 (by decide) ?_
        refine pc_S (As := [_, _]) X Y d_K_goBackToStart_54 (c_K_87 hG) (s_A_fill hG) rfl rfl (Nat.le_of_ble_eq_true rfl) (by rw [hR]; exact ⟨by decide, by decide⟩) (by decide) (by decide) (by rw [hR]; first | decide | (dsimp only [px_rm]; omega)) (by rw [hR]; first | decide | (dsimp only [px_rm]; omega)) (t_A_fill A (by omega) ha ?_)
        have S := S.row (Or.inr (Or.inr (Or.inr ⟨rfl, rfl, rfl⟩))) (f := fun _ => 0)
        refine pg_aload_n X d_K_goBackToStart_57 rfl ?_
        refine pg_iconst X (0) d_K_goBackToStart_58 (by decide) ?_
        refine pw_s X hG S (j := 1) rfl (f_K_28 hG) (nf_K_now hG) rfl rfl d_K_goBackToStart_59 (by decide) (fun π1 S => ?_)
        refine pg_aload_n X d_K_goBackToStart_62 rfl ?_
        refine pg_iconst X (0) d_K_goBackToStart_63 (by decide) ?_
        refine pw_s X hG S (j := 2) rfl (f_K_31 hG) (nf_K_inside hG) rfl rfl d_K_goBackToStart_64 (by decide) (fun π1 S => ?_)
        refine pg_aload_n X d_K_goBackToStart_67 rfl ?_
        refine pg_iconst X (0) d_K_goBackToStart_68 (by decide) ?_
        refine pw_s X hG S (j := 3) rfl (f_K_34 hG) (nf_K_gone hG) rfl rfl d_K_goBackToStart_69 (by decide) (fun π1 S => ?_)
        exact pg_vret X Y d_K_goBackToStart_72 (by decide) (Nat.zero_le _) (Nat.zero_le _) (k _ S)
      · simp (disch := omega) only [Int32.lt_iff_toInt_lt, Int32.le_iff_toInt_le, nI_toInt, px_l0, px_l1, px_l2, px_l3, px_l4, px_l5, px_l6, px_l10, px_l11, px_l12, px_l16, px_l30, px_l100, px_l400] at c1
        omega
    | succ f ih =>
      intro i hi π1 S
      have F2 : WF (px_it gbI i w) wd ht nt nd tl := it_F F (fun i w hi F => gbI_F F Bw.1 Bh.1) i (by omega)
      have ho := S.1.o
      rw [F2.1] at ho
      have hvs := S.1.vs
      have hv := S.1.v (i := i) (by omega)
      refine pg_iload_n X d_K_goBackToStart_2 rfl ?_
      refine pg_aload_n X d_K_goBackToStart_3 rfl ?_
      refine pg_getf X (f_K_24 hG) d_K_goBackToStart_4 (px_rd_of (by assumption)) rfl ?_
      refine pg_icmp_ge X d_K_goBackToStart_7 (fun c1 => ?_) (fun c1 => ?_)
      · simp (disch := omega) only [Int32.lt_iff_toInt_lt, Int32.le_iff_toInt_le, nI_toInt, px_l0, px_l1, px_l2, px_l3, px_l4, px_l5, px_l6, px_l10, px_l11, px_l12, px_l16, px_l30, px_l100, px_l400] at c1
        omega
      refine pg_aload_n X d_K_goBackToStart_10 rfl ?_
      refine pg_getf X (f_K_11 hG) d_K_goBackToStart_11 (px_rd_of (by assumption)) rfl ?_
      refine pg_iload_n X d_K_goBackToStart_14 rfl ?_
      refine pg_aaldN X d_K_goBackToStart_15 (px_rd_of (by assumption)) rfl (by first | assumption | omega) (by first | assumption | omega) (by rfl) ?_
      refine pc_V (ci := 1) (As := []) X Y d_K_goBackToStart_16 (c_K_84 hG) (i_P_goBackToStart hG) (v_P_goBackToStart hG) (fun r h => by rw [hG.2] at h; cases h; rfl) rfl rfl (Nat.le_of_ble_eq_true rfl) (by rw [hR]; exact ⟨by decide, by decide⟩) (by decide) (by decide) (by rw [hR]; first | decide | (dsimp only [px_rm]; omega)) (by rw [hR]; first | decide | (dsimp only [px_rm]; omega)) (px_rd_of (by assumption)) (t_P_goBackToStart A S (by omega) (fun π1 S => ?_))
      refine pg_iinc1 X d_K_goBackToStart_19 ?_
      refine pg_goto X d_K_goBackToStart_22 ?_
      rw [nI_i1]
      exact ih (i + 1) (by omega) π1 S
  refine pg_iconst X (0) d_K_goBackToStart_0 (by decide) ?_
  refine pg_istore1 X d_K_goBackToStart_1 ?_
  exact loop tl 0 (by omega) π S
theorem t_P_copyFrom (A : GA G) {a b : Nat} (hne : b ≠ a) {f0 f1 f2 f3 f4 f5 f6 f7 f8 f9 : Int32} {g0 g1 g2 g3 g4 g5 g6 g7 g8 g9 : Int32} (ha : π.2 a = some (.inr (1, [.int f0, .int f1, .int f2, .int f3, .int f4, .int f5, .int f6, .int f7, .int f8, .int f9]))) (hb : π.2 b = some (.inr (1, [.int g0, .int g1, .int g2, .int g3, .int g4, .int g5, .int g6, .int g7, .int g8, .int g9]))) (k : K (.inl none) (px_wr π a (.inr (1, [.int g0, .int g1, .int g2, .int g3, .int g4, .int g5, .int g6, .int g7, .int g8, .int g9])))) :
    px_P l G y_P_copyFrom b_P_copyFrom 2 none (px_rm 0 0) true [.ref a, .ref b] π K := by
  have hG := A.1
  have hZ := A.2.1
  refine px_P.intro (by decide) hZ (by simp [Value.category]) (Nat.le_of_ble_eq_true rfl) rfl ?_
  intro Γ hl hR X Y hnm hs hbel
  subst hl
  refine pg_w ?_
  have hbk : ∀ e, (px_wr π a e).2 b = some (.inr (1, [.int g0, .int g1, .int g2, .int g3, .int g4, .int g5, .int g6, .int g7, .int g8, .int g9])) := fun e => (px_wr_ne hne).trans hb
  refine pg_aload_n X d_P_copyFrom_0 rfl ?_
  refine pg_aload_n X d_P_copyFrom_1 rfl ?_
  refine pg_getf X (f_P_9 hG) d_P_copyFrom_2 (px_rd_of hb) rfl ?_
  refine pg_putf X (f_P_9 hG) (ct_P hG) (nf_P_second hG) rfl rfl d_P_copyFrom_5 ha ?_
  refine pg_aload_n X d_P_copyFrom_8 rfl ?_
  refine pg_aload_n X d_P_copyFrom_9 rfl ?_
  refine pg_getf X (f_P_15 hG) d_P_copyFrom_10 (px_rd_of (hbk _)) rfl ?_
  refine pg_putf X (f_P_15 hG) (ct_P hG) (nf_P_door hG) rfl rfl d_P_copyFrom_13 px_wr_self ?_
  rw [px_wr_wr]
  refine pg_aload_n X d_P_copyFrom_16 rfl ?_
  refine pg_aload_n X d_P_copyFrom_17 rfl ?_
  refine pg_getf X (f_P_18 hG) d_P_copyFrom_18 (px_rd_of (hbk _)) rfl ?_
  refine pg_putf X (f_P_18 hG) (ct_P hG) (nf_P_group hG) rfl rfl d_P_copyFrom_21 px_wr_self ?_
  rw [px_wr_wr]
  refine pg_aload_n X d_P_copyFrom_24 rfl ?_
  refine pg_aload_n X d_P_copyFrom_25 rfl ?_
  refine pg_getf X (f_P_21 hG) d_P_copyFrom_26 (px_rd_of (hbk _)) rfl ?_
  refine pg_putf X (f_P_21 hG) (ct_P hG) (nf_P_key hG) rfl rfl d_P_copyFrom_29 px_wr_self ?_
  rw [px_wr_wr]
  refine pg_aload_n X d_P_copyFrom_32 rfl ?_
  refine pg_aload_n X d_P_copyFrom_33 rfl ?_
  refine pg_getf X (f_P_24 hG) d_P_copyFrom_34 (px_rd_of (hbk _)) rfl ?_
  refine pg_putf X (f_P_24 hG) (ct_P hG) (nf_P_state hG) rfl rfl d_P_copyFrom_37 px_wr_self ?_
  rw [px_wr_wr]
  refine pg_aload_n X d_P_copyFrom_40 rfl ?_
  refine pg_aload_n X d_P_copyFrom_41 rfl ?_
  refine pg_getf X (f_P_27 hG) d_P_copyFrom_42 (px_rd_of (hbk _)) rfl ?_
  refine pg_putf X (f_P_27 hG) (ct_P hG) (nf_P_cell hG) rfl rfl d_P_copyFrom_45 px_wr_self ?_
  rw [px_wr_wr]
  refine pg_aload_n X d_P_copyFrom_48 rfl ?_
  refine pg_aload_n X d_P_copyFrom_49 rfl ?_
  refine pg_getf X (f_P_30 hG) d_P_copyFrom_50 (px_rd_of (hbk _)) rfl ?_
  refine pg_putf X (f_P_30 hG) (ct_P hG) (nf_P_goal hG) rfl rfl d_P_copyFrom_53 px_wr_self ?_
  rw [px_wr_wr]
  refine pg_aload_n X d_P_copyFrom_56 rfl ?_
  refine pg_aload_n X d_P_copyFrom_57 rfl ?_
  refine pg_getf X (f_P_33 hG) d_P_copyFrom_58 (px_rd_of (hbk _)) rfl ?_
  refine pg_putf X (f_P_33 hG) (ct_P hG) (nf_P_looked hG) rfl rfl d_P_copyFrom_61 px_wr_self ?_
  rw [px_wr_wr]
  refine pg_aload_n X d_P_copyFrom_64 rfl ?_
  refine pg_aload_n X d_P_copyFrom_65 rfl ?_
  refine pg_getf X (f_P_36 hG) d_P_copyFrom_66 (px_rd_of (hbk _)) rfl ?_
  refine pg_putf X (f_P_36 hG) (ct_P hG) (nf_P_seenBits hG) rfl rfl d_P_copyFrom_69 px_wr_self ?_
  rw [px_wr_wr]
  refine pg_aload_n X d_P_copyFrom_72 rfl ?_
  refine pg_aload_n X d_P_copyFrom_73 rfl ?_
  refine pg_getf X (f_P_39 hG) d_P_copyFrom_74 (px_rd_of (hbk _)) rfl ?_
  refine pg_putf X (f_P_39 hG) (ct_P hG) (nf_P_seenCount hG) rfl rfl d_P_copyFrom_77 px_wr_self ?_
  rw [px_wr_wr]
  exact pg_vret X Y d_P_copyFrom_80 (by decide) (Nat.zero_le _) (Nat.zero_le _) (k)
def cpI (w : Nat → Nat → Int32) (i : Nat) (wt : Nat → Nat → Int32) : Nat → Nat → Int32 := upr wt (6 + i) (w (6 + i))
def cpW (w wt : Nat → Nat → Int32) (tl : Nat) : Nat → Nat → Int32 := up2 (up2 (up2 (up2 (up2 (upr (upr (upr (upr (px_it (cpI w) tl wt) 1 (w 1)) 2 (w 2)) 3 (w 3)) 4 (w 4)) 0 0 (w 0 0)) 0 1 (w 0 1)) 0 2 (w 0 2)) 0 3 (w 0 3)) 0 4 0
end CPY
