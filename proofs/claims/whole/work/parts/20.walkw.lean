/-! WALK: a visitor comes in, steps, goes out, looks -/
section WAW
variable {l : Launch} {G : px_Cg} {π π0 : px_H} {K : Option Value ⊕ String → px_H → Prop} {zh zw n nt nd wd ht tl : Nat} {h w : Nat → Nat → Int32}
def inW (w : Nat → Nat → Int32) (i c d : Nat) : Nat → Nat → Int32 :=
  let w1 := up2 w (6 + i) 4 1
  let w2 := up2 w1 (6 + i) 5 (nI c)
  let w3 := up2 w2 1 c (w2 1 c + 1)
  let w4 := up2 w3 0 2 (w3 0 2 + 1)
  up2 w4 3 d (w4 3 d + 1)
theorem t_K_comeIn (A : GA G) (S : SW zw zh n w h π0 π) (hn : n < 2 ^ 31) {i c d : Nat} (hi : i < 16) (hdo : w (6 + i) 1 = nI d) (hd : d < 10) (hgo : h 2 d = nI c) (hc : c < n)
    (k : ∀ π1, SW zw zh n (if w 1 c < h 0 5 then inW w i c d else w) h π0 π1 → K (.inl none) π1) :
    px_P l G y_K_comeIn b_K_comeIn 3 none (px_rm 1 21) true [.ref zw, .ref (zw + 6 + i)] π K := by
  have hG := A.1
  have hZ := A.2.1
  refine px_P.intro (by decide) hZ (by simp [Value.category]) (Nat.le_of_ble_eq_true rfl) rfl ?_
  intro Γ hl hR X Y hnm hs hbel
  subst hl
  refine pg_w ?_
  have ho := S.1.o
  have hvs := S.1.vs
  have hcr := S.1.cr
  have hsd := S.1.sd
  have hca := S.1.ca
  have hdn := S.1.dn
  have hh := S.2.1.o
  have hgc := S.2.1.gc
  have hit := S.2.1.it
  have hsy := S.2.1.sy
  have hv := S.1.v (i := i) (by first | assumption | omega)
  rw [hdo] at hv
  refine pg_aload_n X d_K_comeIn_0 rfl ?_
  refine pg_getf X (f_K_41 hG) d_K_comeIn_1 (px_rd_of (by assumption)) rfl ?_
  refine pg_getf X (f_K_112 hG) d_K_comeIn_4 (px_rd_of (by assumption)) rfl ?_
  refine pg_aload_n X d_K_comeIn_7 rfl ?_
  refine pg_getf X (f_K_61 hG) d_K_comeIn_8 (px_rd_of (by assumption)) rfl ?_
  refine pg_ialdN X d_K_comeIn_11 (px_rd_of (by assumption)) (by first | assumption | omega) (by first | assumption | omega) ?_
  rw [hgo]
  refine pg_istore2 X d_K_comeIn_12 ?_
  refine pg_aload_n X d_K_comeIn_13 rfl ?_
  refine pg_iload_n X d_K_comeIn_14 rfl ?_
  refine pc_V (ci := 2) (As := [_]) X Y d_K_comeIn_15 (c_K_115 hG) (i_K_hasRoom hG) (v_K_hasRoom hG) (fun r h => by rw [hG.2] at h; cases h; rfl) rfl rfl (Nat.le_of_ble_eq_true rfl) (by rw [hR]; exact ⟨by decide, by decide⟩) (by decide) (by decide) (by rw [hR]; first | decide | (dsimp only [px_rm]; omega)) (by rw [hR]; first | decide | (dsimp only [px_rm]; omega)) (px_rd_of (by assumption)) (t_K_hasRoom A S.1 S.2.1 hn hc (fun c1 => ?_) (fun c1 => ?_))
  · rw [if_pos c1] at k
    refine pg_if_eq X d_K_comeIn_18 (fun c2 => ?_) (fun c2 => ?_)
    · exact absurd c2 (by decide)
    refine pg_aload_n X d_K_comeIn_21 rfl ?_
    refine pg_iconst X (1) d_K_comeIn_22 (by decide) ?_
    refine pw_v X hG S (f_K_97 hG) (nf_P_state hG) d_K_comeIn_23 (by first | assumption | omega) (by decide) (fun π1 S => ?_)
    refine pg_aload_n X d_K_comeIn_26 rfl ?_
    refine pg_iload_n X d_K_comeIn_27 rfl ?_
    refine pw_v X hG S (f_K_106 hG) (nf_P_cell hG) d_K_comeIn_28 (by first | assumption | omega) (by decide) (fun π1 S => ?_)
    have ho := S.1.o
    have hvs := S.1.vs
    have hcr := S.1.cr
    have hsd := S.1.sd
    have hca := S.1.ca
    have hdn := S.1.dn
    have hh := S.2.1.o
    have hgc := S.2.1.gc
    have hit := S.2.1.it
    have hsy := S.2.1.sy
    have hv := S.1.v (i := i) (by first | assumption | omega)
    refine pg_aload_n X d_K_comeIn_31 rfl ?_
    refine pg_getf X (f_K_51 hG) d_K_comeIn_32 (px_rd_of (by assumption)) rfl ?_
    refine pg_iload_n X d_K_comeIn_35 rfl ?_
    refine pg_dup2 X d_K_comeIn_36 rfl rfl ?_
    refine pg_ialdN X d_K_comeIn_37 (px_rd_of (by assumption)) (by first | assumption | omega) (by first | assumption | omega) ?_
    refine pg_iconst X (1) d_K_comeIn_38 (by decide) ?_
    refine pg_iadd X d_K_comeIn_39 ?_
    refine pw_a X S (Or.inl ⟨rfl, rfl, rfl⟩) d_K_comeIn_40 (by first | assumption | omega) (by first | assumption | omega) (fun π1 S => ?_)
    have ho := S.1.o
    have hvs := S.1.vs
    have hcr := S.1.cr
    have hsd := S.1.sd
    have hca := S.1.ca
    have hdn := S.1.dn
    have hh := S.2.1.o
    have hgc := S.2.1.gc
    have hit := S.2.1.it
    have hsy := S.2.1.sy
    have hv := S.1.v (i := i) (by first | assumption | omega)
    refine pg_aload_n X d_K_comeIn_41 rfl ?_
    refine pg_dup X d_K_comeIn_42 rfl ?_
    refine pg_getf X (f_K_31 hG) d_K_comeIn_43 (px_rd_of (by assumption)) rfl ?_
    refine pg_iconst X (1) d_K_comeIn_46 (by decide) ?_
    refine pg_iadd X d_K_comeIn_47 ?_
    refine pw_s X hG S (j := 2) rfl (f_K_31 hG) (nf_K_inside hG) rfl rfl d_K_comeIn_48 (by decide) (fun π1 S => ?_)
    have ho := S.1.o
    have hvs := S.1.vs
    have hcr := S.1.cr
    have hsd := S.1.sd
    have hca := S.1.ca
    have hdn := S.1.dn
    have hh := S.2.1.o
    have hgc := S.2.1.gc
    have hit := S.2.1.it
    have hsy := S.2.1.sy
    have hv := S.1.v (i := i) (by first | assumption | omega)
    refine pg_aload_n X d_K_comeIn_51 rfl ?_
    refine pg_getf X (f_K_17 hG) d_K_comeIn_52 (px_rd_of (by assumption)) rfl ?_
    have hd5 : (up2 (up2 (up2 (up2 w (6 + i) 4 1) (6 + i) 5 (nI c)) 1 c (up2 (up2 w (6 + i) 4 1) (6 + i) 5 (nI c) 1 c + 1)) 0 2 (up2 (up2 (up2 w (6 + i) 4 1) (6 + i) 5 (nI c)) 1 c (up2 (up2 w (6 + i) 4 1) (6 + i) 5 (nI c) 1 c + 1) 0 2 + 1)) (6 + i) 1 = nI d := by
      rw [up2_n (by omega), up2_n (by omega), up2_n (by omega), up2_n (by omega)]
      exact hdo
    rw [hd5] at hv
    refine pg_aload_n X d_K_comeIn_55 rfl ?_
    refine pg_getf X (f_K_61 hG) d_K_comeIn_56 (px_rd_of (by assumption)) rfl ?_
    refine pg_dup2 X d_K_comeIn_59 rfl rfl ?_
    refine pg_ialdN X d_K_comeIn_60 (px_rd_of (by assumption)) (by first | assumption | omega) (by first | assumption | omega) ?_
    refine pg_iconst X (1) d_K_comeIn_61 (by decide) ?_
    refine pg_iadd X d_K_comeIn_62 ?_
    refine pw_a X S (Or.inr (Or.inr (Or.inl ⟨rfl, rfl, rfl⟩))) d_K_comeIn_63 (by first | assumption | omega) (by first | assumption | omega) (fun π1 S => ?_)
    exact pg_vret X Y d_K_comeIn_64 (by decide) (Nat.zero_le _) (Nat.zero_le _) (k _ S)
  · rw [if_neg c1] at k
    refine pg_if_eq X d_K_comeIn_18 (fun c2 => ?_) (fun c2 => ?_)
    · exact pg_vret X Y d_K_comeIn_64 (by decide) (Nat.zero_le _) (Nat.zero_le _) (k _ S)
    · exact absurd rfl c2
def stW (w : Nat → Nat → Int32) (i c o : Nat) : Nat → Nat → Int32 :=
  let w1 := up2 w 1 c (w 1 c - 1)
  let w2 := up2 w1 1 o (w1 1 o + 1)
  up2 w2 (6 + i) 5 (nI o)
/-- one step: to the cell o that is one nearer, if there is one and it has room -/
theorem t_K_step (A : GA G) (S : SW zw zh n w h π0 π) (hn : n = 12 * ht) (h0 : h 0 0 = nI wd) (h1 : h 0 1 = nI ht) (hwd : wd ≤ 12) (hht : ht ≤ 12) {i c g : Nat} (hi : i < 16) (hgo : w (6 + i) 6 = nI g) (hg : g < 10) (hce : w (6 + i) 5 = nI c) (hc : inC wd ht c) {o : Option Nat} (hne : nearC wd ht (h (6 + g)) c = px_ov o) (hoc : ∀ x, o = some x → inC wd ht x)
    (k : ∀ π1, SW zw zh n (match o with | some x => if w 1 x < h 0 5 then stW w i c x else w | none => w) h π0 π1 → K (.inl none) π1) :
    px_P l G y_K_step b_K_step 3 none (px_rm 2 49) true [.ref zw, .ref (zw + 6 + i)] π K := by
  have hG := A.1
  have hZ := A.2.1
  refine px_P.intro (by decide) hZ (by simp [Value.category]) (Nat.le_of_ble_eq_true rfl) rfl ?_
  intro Γ hl hR X Y hnm hs hbel
  subst hl
  refine pg_w ?_
  have ho := S.1.o
  have hvs := S.1.vs
  have hcr := S.1.cr
  have hsd := S.1.sd
  have hca := S.1.ca
  have hdn := S.1.dn
  have hh := S.2.1.o
  have hgc := S.2.1.gc
  have hit := S.2.1.it
  have hsy := S.2.1.sy
  have hv := S.1.v (i := i) (by first | assumption | omega)
  have hv2 := hv
  rw [hgo, hce] at hv2
  clear hv
  have hc2 := inC_lt hc
  refine pg_aload_n X d_K_step_0 rfl ?_
  refine pg_getf X (f_K_41 hG) d_K_step_1 (px_rd_of (by assumption)) rfl ?_
  refine pg_aload_n X d_K_step_4 rfl ?_
  refine pg_getf X (f_K_119 hG) d_K_step_5 (px_rd_of (by assumption)) rfl ?_
  refine pg_aload_n X d_K_step_8 rfl ?_
  refine pg_getf X (f_K_106 hG) d_K_step_9 (px_rd_of (by assumption)) rfl ?_
  refine pc_V (ci := 0) (As := [_, _]) X Y d_K_step_12 (c_K_142 hG) (i_H_cellOneNearer hG) (v_H_cellOneNearer hG) (fun r h => by rw [hG.2] at h; cases h; rfl) rfl rfl (Nat.le_of_ble_eq_true rfl) (by rw [hR]; exact ⟨by decide, by decide⟩) (by decide) (by decide) (by rw [hR]; first | decide | (dsimp only [px_rm]; omega)) (by rw [hR]; first | decide | (dsimp only [px_rm]; omega)) (px_rd_of (by assumption)) (t_H_cellOneNearer A S.2.1 hn h0 h1 hwd hht hg hc ?_)
  rw [hne]
  refine pg_istore2 X d_K_step_15 ?_
  refine pg_aload_n X d_K_step_16 rfl ?_
  refine pg_iload_n X d_K_step_17 rfl ?_
  cases o with
  | none =>
    refine pc_V (ci := 2) (As := [_]) X Y d_K_step_18 (c_K_115 hG) (i_K_hasRoom hG) (v_K_hasRoom hG) (fun r h => by rw [hG.2] at h; cases h; rfl) rfl rfl (Nat.le_of_ble_eq_true rfl) (by rw [hR]; exact ⟨by decide, by decide⟩) (by decide) (by decide) (by rw [hR]; first | decide | (dsimp only [px_rm]; omega)) (by rw [hR]; first | decide | (dsimp only [px_rm]; omega)) (px_rd_of (by assumption)) (t_K_hasRoomN A S.1 (by decide) ?_)
    refine pg_if_eq X d_K_step_21 (fun c1 => ?_) (fun c1 => ?_)
    · exact pg_vret X Y d_K_step_52 (by decide) (Nat.zero_le _) (Nat.zero_le _) (k _ S)
    · exact absurd rfl c1
  | some x =>
    have hx := hoc x rfl
    have hx2 := inC_lt hx
    refine pc_V (ci := 2) (As := [_]) X Y d_K_step_18 (c_K_115 hG) (i_K_hasRoom hG) (v_K_hasRoom hG) (fun r h => by rw [hG.2] at h; cases h; rfl) rfl rfl (Nat.le_of_ble_eq_true rfl) (by rw [hR]; exact ⟨by decide, by decide⟩) (by decide) (by decide) (by rw [hR]; first | decide | (dsimp only [px_rm]; omega)) (by rw [hR]; first | decide | (dsimp only [px_rm]; omega)) (px_rd_of (by assumption)) (t_K_hasRoom A S.1 S.2.1 (by omega) (c := x) (by omega) (fun c1 => ?_) (fun c1 => ?_))
    · dsimp only at k
      rw [if_pos c1] at k
      refine pg_if_eq X d_K_step_21 (fun c2 => ?_) (fun c2 => ?_)
      · exact absurd c2 (by decide)
      refine pg_aload_n X d_K_step_24 rfl ?_
      refine pg_getf X (f_K_51 hG) d_K_step_25 (px_rd_of (by assumption)) rfl ?_
      refine pg_aload_n X d_K_step_28 rfl ?_
      refine pg_getf X (f_K_106 hG) d_K_step_29 (px_rd_of (by assumption)) rfl ?_
      refine pg_dup2 X d_K_step_32 rfl rfl ?_
      refine pg_ialdN X d_K_step_33 (px_rd_of (by assumption)) (by first | assumption | omega) (by first | assumption | omega) ?_
      refine pg_iconst X (1) d_K_step_34 (by decide) ?_
      refine pg_isub X d_K_step_35 ?_
      refine pw_a X S (Or.inl ⟨rfl, rfl, rfl⟩) d_K_step_36 (by first | assumption | omega) (by first | assumption | omega) (fun π1 S => ?_)
      have ho := S.1.o
      have hvs := S.1.vs
      have hcr := S.1.cr
      have hsd := S.1.sd
      have hca := S.1.ca
      have hdn := S.1.dn
      have hh := S.2.1.o
      have hgc := S.2.1.gc
      have hit := S.2.1.it
      have hsy := S.2.1.sy
      have hv := S.1.v (i := i) (by first | assumption | omega)
      refine pg_aload_n X d_K_step_37 rfl ?_
      refine pg_getf X (f_K_51 hG) d_K_step_38 (px_rd_of (by assumption)) rfl ?_
      refine pg_iload_n X d_K_step_41 rfl ?_
      refine pg_dup2 X d_K_step_42 rfl rfl ?_
      refine pg_ialdN X d_K_step_43 (px_rd_of (by assumption)) (by first | assumption | omega) (by first | assumption | omega) ?_
      refine pg_iconst X (1) d_K_step_44 (by decide) ?_
      refine pg_iadd X d_K_step_45 ?_
      refine pw_a X S (Or.inl ⟨rfl, rfl, rfl⟩) d_K_step_46 (by first | assumption | omega) (by first | assumption | omega) (fun π1 S => ?_)
      refine pg_aload_n X d_K_step_47 rfl ?_
      refine pg_iload_n X d_K_step_48 rfl ?_
      refine pw_v X hG S (f_K_106 hG) (nf_P_cell hG) d_K_step_49 (by first | assumption | omega) (by decide) (fun π1 S => ?_)
      exact pg_vret X Y d_K_step_52 (by decide) (Nat.zero_le _) (Nat.zero_le _) (k _ S)
    · dsimp only at k
      rw [if_neg c1] at k
      refine pg_if_eq X d_K_step_21 (fun c2 => ?_) (fun c2 => ?_)
      · exact pg_vret X Y d_K_step_52 (by decide) (Nat.zero_le _) (Nat.zero_le _) (k _ S)
      · exact absurd rfl c2
def outW (w : Nat → Nat → Int32) (i c g : Nat) : Nat → Nat → Int32 :=
  let w1 := up2 w 4 g (w 4 g + 1)
  let w2 := up2 w1 1 c (w1 1 c - 1)
  let w3 := up2 w2 0 2 (w2 0 2 - 1)
  let w4 := up2 w3 0 3 (w3 0 3 + 1)
  trn (up2 w4 (6 + i) 4 2) i (-1)
theorem t_K_goOut (A : GA G) (S : SW zw zh n w h π0 π) (hn : n < 2 ^ 31) {i c g : Nat} (hi : i < 16) (hgo : w (6 + i) 6 = nI g) (hg : g < 10) (hce : w (6 + i) 5 = nI c) (hc : c < n)
    (k : ∀ π1, SW zw zh n (outW w i c g) h π0 π1 → K (.inl none) π1) :
    px_P l G y_K_goOut b_K_goOut 2 none (px_rm 1 21) true [.ref zw, .ref (zw + 6 + i)] π K := by
  have hG := A.1
  have hZ := A.2.1
  refine px_P.intro (by decide) hZ (by simp [Value.category]) (Nat.le_of_ble_eq_true rfl) rfl ?_
  intro Γ hl hR X Y hnm hs hbel
  subst hl
  refine pg_w ?_
  have ho := S.1.o
  have hvs := S.1.vs
  have hcr := S.1.cr
  have hsd := S.1.sd
  have hca := S.1.ca
  have hdn := S.1.dn
  have hh := S.2.1.o
  have hgc := S.2.1.gc
  have hit := S.2.1.it
  have hsy := S.2.1.sy
  have hv := S.1.v (i := i) (by first | assumption | omega)
  have hv2 := hv
  rw [hgo] at hv2
  clear hv
  refine pg_aload_n X d_K_goOut_0 rfl ?_
  refine pg_getf X (f_K_21 hG) d_K_goOut_1 (px_rd_of (by assumption)) rfl ?_
  refine pg_aload_n X d_K_goOut_4 rfl ?_
  refine pg_getf X (f_K_119 hG) d_K_goOut_5 (px_rd_of (by assumption)) rfl ?_
  refine pg_dup2 X d_K_goOut_8 rfl rfl ?_
  refine pg_ialdN X d_K_goOut_9 (px_rd_of (by assumption)) (by first | assumption | omega) (by first | assumption | omega) ?_
  refine pg_iconst X (1) d_K_goOut_10 (by decide) ?_
  refine pg_iadd X d_K_goOut_11 ?_
  refine pw_a X S (Or.inr (Or.inr (Or.inr ⟨rfl, rfl, rfl⟩))) d_K_goOut_12 (by first | assumption | omega) (by first | assumption | omega) (fun π1 S => ?_)
  have ho := S.1.o
  have hvs := S.1.vs
  have hcr := S.1.cr
  have hsd := S.1.sd
  have hca := S.1.ca
  have hdn := S.1.dn
  have hh := S.2.1.o
  have hgc := S.2.1.gc
  have hit := S.2.1.it
  have hsy := S.2.1.sy
  have hv := S.1.v (i := i) (by first | assumption | omega)
  have hv2 := hv
  rw [up2_n (by omega), up2_n (by omega), up2_n (by omega), up2_n (by omega), up2_n (by omega), up2_n (by omega), up2_n (by omega), up2_n (by omega), up2_n (by omega), up2_n (by omega), hce] at hv2
  clear hv
  refine pg_aload_n X d_K_goOut_13 rfl ?_
  refine pg_getf X (f_K_51 hG) d_K_goOut_14 (px_rd_of (by assumption)) rfl ?_
  refine pg_aload_n X d_K_goOut_17 rfl ?_
  refine pg_getf X (f_K_106 hG) d_K_goOut_18 (px_rd_of (by assumption)) rfl ?_
  refine pg_dup2 X d_K_goOut_21 rfl rfl ?_
  refine pg_ialdN X d_K_goOut_22 (px_rd_of (by assumption)) (by first | assumption | omega) (by first | assumption | omega) ?_
  refine pg_iconst X (1) d_K_goOut_23 (by decide) ?_
  refine pg_isub X d_K_goOut_24 ?_
  refine pw_a X S (Or.inl ⟨rfl, rfl, rfl⟩) d_K_goOut_25 (by first | assumption | omega) (by first | assumption | omega) (fun π1 S => ?_)
  have ho := S.1.o
  have hvs := S.1.vs
  have hcr := S.1.cr
  have hsd := S.1.sd
  have hca := S.1.ca
  have hdn := S.1.dn
  have hh := S.2.1.o
  have hgc := S.2.1.gc
  have hit := S.2.1.it
  have hsy := S.2.1.sy
  have hv := S.1.v (i := i) (by first | assumption | omega)
  refine pg_aload_n X d_K_goOut_26 rfl ?_
  refine pg_dup X d_K_goOut_27 rfl ?_
  refine pg_getf X (f_K_31 hG) d_K_goOut_28 (px_rd_of (by assumption)) rfl ?_
  refine pg_iconst X (1) d_K_goOut_31 (by decide) ?_
  refine pg_isub X d_K_goOut_32 ?_
  refine pw_s X hG S (j := 2) rfl (f_K_31 hG) (nf_K_inside hG) rfl rfl d_K_goOut_33 (by decide) (fun π1 S => ?_)
  have ho := S.1.o
  have hvs := S.1.vs
  have hcr := S.1.cr
  have hsd := S.1.sd
  have hca := S.1.ca
  have hdn := S.1.dn
  have hh := S.2.1.o
  have hgc := S.2.1.gc
  have hit := S.2.1.it
  have hsy := S.2.1.sy
  have hv := S.1.v (i := i) (by first | assumption | omega)
  refine pg_aload_n X d_K_goOut_36 rfl ?_
  refine pg_dup X d_K_goOut_37 rfl ?_
  refine pg_getf X (f_K_34 hG) d_K_goOut_38 (px_rd_of (by assumption)) rfl ?_
  refine pg_iconst X (1) d_K_goOut_41 (by decide) ?_
  refine pg_iadd X d_K_goOut_42 ?_
  refine pw_s X hG S (j := 3) rfl (f_K_34 hG) (nf_K_gone hG) rfl rfl d_K_goOut_43 (by decide) (fun π1 S => ?_)
  refine pg_aload_n X d_K_goOut_46 rfl ?_
  refine pg_iconst X (2) d_K_goOut_47 (by decide) ?_
  refine pw_v X hG S (f_K_97 hG) (nf_P_state hG) d_K_goOut_48 (by first | assumption | omega) (by decide) (fun π1 S => ?_)
  have ho := S.1.o
  have hvs := S.1.vs
  have hcr := S.1.cr
  have hsd := S.1.sd
  have hca := S.1.ca
  have hdn := S.1.dn
  have hh := S.2.1.o
  have hgc := S.2.1.gc
  have hit := S.2.1.it
  have hsy := S.2.1.sy
  have hv := S.1.v (i := i) (by first | assumption | omega)
  refine pg_aload_n X d_K_goOut_51 rfl ?_
  refine pg_iconst X (-1) d_K_goOut_52 (by decide) ?_
  refine pc_V (ci := 1) (As := [_]) X Y d_K_goOut_53 (c_K_93 hG) (i_P_turnTo hG) (v_P_turnTo hG) (fun r h => by rw [hG.2] at h; cases h; rfl) rfl rfl (Nat.le_of_ble_eq_true rfl) (by rw [hR]; exact ⟨by decide, by decide⟩) (by decide) (by decide) (by rw [hR]; first | decide | (dsimp only [px_rm]; omega)) (by rw [hR]; first | decide | (dsimp only [px_rm]; omega)) (px_rd_of (by assumption)) (t_turn A S hi (fun π1 S => ?_))
  exact pg_vret X Y d_K_goOut_56 (by decide) (Nat.zero_le _) (Nat.zero_le _) (k _ S)
end WAW
