/-! THE CLASS: methods that read -/
section TSW
variable {Γ : px_Cm} {G : px_Cg} {Q : State → Prop} {cc : ByteArray} {own : String} {w : Bool} {nc ns pc : Nat} {ls : List (Option Value)} {st : List Value} {π : px_H}
theorem pg_tin (X : px_X Γ G cc own) {dflt lo hi : Int} {offs : Array Int} {len : Nat} {x : Int32} {off : Int} {tgt : Nat} (hdg : decode cc pc = .ok (.tableswitch dflt lo hi offs, len)) (h1 : ¬ x.toInt < lo) (h2 : ¬ hi < x.toInt) (ho : offs[(x.toInt - lo).toNat]? = some off) (ht : (pc : Int) + off = (tgt : Int)) (k : px_G Γ G Q w nc ns tgt ls st π) : px_G Γ G Q w nc ns pc ls (.int x :: st) π :=
  fun H lsA locs hL hM hl => lv_tableIn X.1 X.2.1 hdg h1 h2 ho ht (k H lsA locs hL hM hl)
theorem pg_tout (X : px_X Γ G cc own) {dflt lo hi : Int} {offs : Array Int} {len : Nat} {x : Int32} {tgt : Nat} (hdg : decode cc pc = .ok (.tableswitch dflt lo hi offs, len)) (h : x.toInt < lo ∨ hi < x.toInt) (ht : (pc : Int) + dflt = (tgt : Int)) (k : px_G Γ G Q w nc ns tgt ls st π) : px_G Γ G Q w nc ns pc ls (.int x :: st) π :=
  fun H lsA locs hL hM hl => lv_tableOut X.1 X.2.1 hdg h ht (k H lsA locs hL hM hl)
end TSW
section VRD
variable {l : Launch} {G : px_Cg} {π π0 π1 : px_H} {K : Option Value ⊕ String → px_H → Prop} {z n nt nd wd ht tl : Nat} {h w wt w' : Nat → Nat → Int32} {ta : Nat → Int32}
theorem t_V_crowd (A : GA G) (hfl : FL l) (R : RV z n h w wt ta π) (B : HF h wd ht nt nd n) {x y : Int32}
    (k : ∀ a b, a < wd → b < ht → x = nI a → y = nI b → K (.inl (some (.int (w 1 (12 * b + a))))) π) (kt : (¬ ∃ a b, a < wd ∧ b < ht ∧ x = nI a ∧ y = nI b) → ∀ z', π.1 < z' → K (.inr IOB) (z', π.2)) :
    px_P l G y_V_crowd b_V_crowd 3 (some .int) (px_rt 7 105 1) false [.ref z, .int x, .int y] π K := by
  have hG := A.1
  have hZ := A.2.1
  refine px_P.intro (by decide) hZ (by simp [Value.category]) (Nat.le_of_ble_eq_true rfl) rfl ?_
  intro Γ hl hR X Y hnm hs hbel
  subst hl
  have ho := R.1
  have hwo := R.2.2.1.o
  have hcr := R.2.2.1.cr
  have Bn := B.2.2.2.2.2.2.2.2.1
  have Bw := B.2.2.2.2.1
  have Bh := B.2.2.2.2.2.1
  refine pg_aload_n X d_V_crowd_0 rfl ?_
  refine pg_getf X (f_V_28 hG) d_V_crowd_1 (px_rd_of (by assumption)) rfl ?_
  refine pg_getf X (f_V_57 hG) d_V_crowd_4 (px_rd_of (by assumption)) rfl ?_
  refine pg_aload_n X d_V_crowd_7 rfl ?_
  refine pg_iload_n X d_V_crowd_8 rfl ?_
  refine pg_iload_n X d_V_crowd_9 rfl ?_
  refine pc_V (ci := 3) (As := [_, _]) X Y d_V_crowd_10 (c_V_45 hG) (i_V_existingCell hG) (v_V_existingCell hG) (fun r h => by rw [hG.2] at h; cases h; rfl) rfl rfl (Nat.le_of_ble_eq_true rfl) (by rw [hR]; exact ⟨by decide, by decide⟩) (by decide) (by decide) (by rw [hR]; first | decide | (dsimp only [px_rm]; omega)) (by rw [hR]; first | decide | (dsimp only [px_rm]; omega)) (px_rd_of (by assumption)) (t_V_existingCell A hfl R B.1 B.2.1 Bw.2 Bh.2 (fun a b ha hb ea eb => ?_) kt)
  refine pg_ialdN X d_V_crowd_13 (px_rd_of (by assumption)) (by first | assumption | omega) (by first | assumption | omega) ?_
  exact pg_iret X Y d_V_crowd_14 rfl (by decide) (by rw [hR]; decide) (by rw [hR]; decide) (k a b ha hb ea eb)
theorem t_V_stayed (A : GA G) (hfl : FL l) (R : RV z n h w wt ta π) (B : HF h wd ht nt nd n) {x y : Int32}
    (k : ∀ a b, a < wd → b < ht → x = nI a → y = nI b → K (.inl (some (.int (w 2 (12 * b + a))))) π) (kt : (¬ ∃ a b, a < wd ∧ b < ht ∧ x = nI a ∧ y = nI b) → ∀ z', π.1 < z' → K (.inr IOB) (z', π.2)) :
    px_P l G y_V_stayed b_V_stayed 3 (some .int) (px_rt 7 105 1) false [.ref z, .int x, .int y] π K := by
  have hG := A.1
  have hZ := A.2.1
  refine px_P.intro (by decide) hZ (by simp [Value.category]) (Nat.le_of_ble_eq_true rfl) rfl ?_
  intro Γ hl hR X Y hnm hs hbel
  subst hl
  have ho := R.1
  have hwo := R.2.2.1.o
  have hsd := R.2.2.1.sd
  have Bn := B.2.2.2.2.2.2.2.2.1
  have Bw := B.2.2.2.2.1
  have Bh := B.2.2.2.2.2.1
  refine pg_aload_n X d_V_stayed_0 rfl ?_
  refine pg_getf X (f_V_28 hG) d_V_stayed_1 (px_rd_of (by assumption)) rfl ?_
  refine pg_getf X (f_V_149 hG) d_V_stayed_4 (px_rd_of (by assumption)) rfl ?_
  refine pg_aload_n X d_V_stayed_7 rfl ?_
  refine pg_iload_n X d_V_stayed_8 rfl ?_
  refine pg_iload_n X d_V_stayed_9 rfl ?_
  refine pc_V (ci := 3) (As := [_, _]) X Y d_V_stayed_10 (c_V_45 hG) (i_V_existingCell hG) (v_V_existingCell hG) (fun r h => by rw [hG.2] at h; cases h; rfl) rfl rfl (Nat.le_of_ble_eq_true rfl) (by rw [hR]; exact ⟨by decide, by decide⟩) (by decide) (by decide) (by rw [hR]; first | decide | (dsimp only [px_rm]; omega)) (by rw [hR]; first | decide | (dsimp only [px_rm]; omega)) (px_rd_of (by assumption)) (t_V_existingCell A hfl R B.1 B.2.1 Bw.2 Bh.2 (fun a b ha hb ea eb => ?_) kt)
  refine pg_ialdN X d_V_stayed_13 (px_rd_of (by assumption)) (by first | assumption | omega) (by first | assumption | omega) ?_
  exact pg_iret X Y d_V_stayed_14 rfl (by decide) (by rw [hR]; decide) (by rw [hR]; decide) (k a b ha hb ea eb)
theorem t_V_through (A : GA G) (hfl : FL l) (R : RV z n h w wt ta π) (B : HF h wd ht nt nd n) {x y : Int32}
    (k : ∀ d, d < nd → x = nI d → K (.inl (some (.int (if y = 0 then w 4 (6 + d) else w 3 (6 + d))))) π) (kt : (¬ ∃ d, d < nd ∧ x = nI d) → ∀ z', π.1 < z' → K (.inr IOB) (z', π.2)) :
    px_P l G y_V_through b_V_through 4 (some .int) (px_rt 7 105 1) false [.ref z, .int x, .int y] π K := by
  have hG := A.1
  have hZ := A.2.1
  refine px_P.intro (by decide) hZ (by simp [Value.category]) (Nat.le_of_ble_eq_true rfl) rfl ?_
  intro Γ hl hR X Y hnm hs hbel
  subst hl
  have ho := R.1
  have hwo := R.2.2.1.o
  have hca := R.2.2.1.ca
  have hdn := R.2.2.1.dn
  have Bd := B.2.2.2.2.2.2.2.1
  refine pg_aload_n X d_V_through_0 rfl ?_
  refine pg_iload_n X d_V_through_1 rfl ?_
  refine pc_V (ci := 3) (As := [_]) X Y d_V_through_2 (c_V_100 hG) (i_V_existingDoor hG) (v_V_existingDoor hG) (fun r h => by rw [hG.2] at h; cases h; rfl) rfl rfl (Nat.le_of_ble_eq_true rfl) (by rw [hR]; exact ⟨by decide, by decide⟩) (by decide) (by decide) (by rw [hR]; first | decide | (dsimp only [px_rm]; omega)) (by rw [hR]; first | decide | (dsimp only [px_rm]; omega)) (px_rd_of (by assumption)) (t_V_existingDoor A hfl R B.2.2.2.1 Bd (fun d hd ed => ?_) kt)
  have k := k d hd ed
  refine pg_istore3 X d_V_through_5 ?_
  refine pg_iload_n X d_V_through_6 rfl ?_
  refine pg_if_eq X d_V_through_7 (fun c1 => ?_) (fun c1 => ?_)
  · rw [if_pos c1] at k
    refine pg_aload_n X d_V_through_22 rfl ?_
    refine pg_getf X (f_V_28 hG) d_V_through_23 (px_rd_of (by assumption)) rfl ?_
    refine pg_getf X (f_V_155 hG) d_V_through_26 (px_rd_of (by assumption)) rfl ?_
    refine pg_iload_n X d_V_through_29 rfl ?_
    refine pg_ialdN X d_V_through_30 (px_rd_of (by assumption)) (by first | assumption | omega) (by first | assumption | omega) ?_
    exact pg_iret X Y d_V_through_31 rfl (by decide) (by rw [hR]; decide) (by rw [hR]; decide) (k)
  · rw [if_neg c1] at k
    refine pg_aload_n X d_V_through_10 rfl ?_
    refine pg_getf X (f_V_28 hG) d_V_through_11 (px_rd_of (by assumption)) rfl ?_
    refine pg_getf X (f_V_152 hG) d_V_through_14 (px_rd_of (by assumption)) rfl ?_
    refine pg_iload_n X d_V_through_17 rfl ?_
    refine pg_ialdN X d_V_through_18 (px_rd_of (by assumption)) (by first | assumption | omega) (by first | assumption | omega) ?_
    refine pg_goto X d_V_through_19 ?_
    exact pg_iret X Y d_V_through_31 rfl (by decide) (by rw [hR]; decide) (by rw [hR]; decide) (k)
theorem t_V_seen (A : GA G) (hfl : FL l) (R : RV z n h w wt ta π) (B : HF h wd ht nt nd n) {x : Int32}
    (k : ∀ t, t < nt → x = nI t → K (.inl (some (.int (w 4 t)))) π) (kt : (¬ ∃ t, t < nt ∧ x = nI t) → ∀ z', π.1 < z' → K (.inr IOB) (z', π.2)) :
    px_P l G y_V_seen b_V_seen 2 (some .int) (px_rt 7 105 1) false [.ref z, .int x] π K := by
  have hG := A.1
  have hZ := A.2.1
  refine px_P.intro (by decide) hZ (by simp [Value.category]) (Nat.le_of_ble_eq_true rfl) rfl ?_
  intro Γ hl hR X Y hnm hs hbel
  subst hl
  have ho := R.1
  have hwo := R.2.2.1.o
  have hdn := R.2.2.1.dn
  have Bt := B.2.2.2.2.2.2.1
  refine pg_aload_n X d_V_seen_0 rfl ?_
  refine pg_getf X (f_V_28 hG) d_V_seen_1 (px_rd_of (by assumption)) rfl ?_
  refine pg_getf X (f_V_155 hG) d_V_seen_4 (px_rd_of (by assumption)) rfl ?_
  refine pg_aload_n X d_V_seen_7 rfl ?_
  refine pg_iload_n X d_V_seen_8 rfl ?_
  refine pc_V (ci := 3) (As := [_]) X Y d_V_seen_9 (c_V_158 hG) (i_V_existingThing hG) (v_V_existingThing hG) (fun r h => by rw [hG.2] at h; cases h; rfl) rfl rfl (Nat.le_of_ble_eq_true rfl) (by rw [hR]; exact ⟨by decide, by decide⟩) (by decide) (by decide) (by rw [hR]; first | decide | (dsimp only [px_rm]; omega)) (by rw [hR]; first | decide | (dsimp only [px_rm]; omega)) (px_rd_of (by assumption)) (t_V_existingThing A hfl R B.2.2.1 Bt (fun t ht et => ?_) kt)
  refine pg_ialdN X d_V_seen_12 (px_rd_of (by assumption)) (by first | assumption | omega) (by first | assumption | omega) ?_
  exact pg_iret X Y d_V_seen_13 rfl (by decide) (by rw [hR]; decide) (by rw [hR]; decide) (k t ht et)
theorem t_V_interest (A : GA G) (hfl : FL l) (R : RV z n h w wt ta π) (B : HF h wd ht nt nd n) {x : Int32}
    (k : ∀ t, t < nt → x = nI t → K (.inl (some (.int (h 3 t)))) π) (kt : (¬ ∃ t, t < nt ∧ x = nI t) → ∀ z', π.1 < z' → K (.inr IOB) (z', π.2)) :
    px_P l G y_V_interest b_V_interest 2 (some .int) (px_rt 7 105 1) false [.ref z, .int x] π K := by
  have hG := A.1
  have hZ := A.2.1
  refine px_P.intro (by decide) hZ (by simp [Value.category]) (Nat.le_of_ble_eq_true rfl) rfl ?_
  intro Γ hl hR X Y hnm hs hbel
  subst hl
  have ho := R.1
  have hho := R.2.1.o
  have hit := R.2.1.it
  have Bt := B.2.2.2.2.2.2.1
  refine pg_aload_n X d_V_interest_0 rfl ?_
  refine pg_getf X (f_V_19 hG) d_V_interest_1 (px_rd_of (by assumption)) rfl ?_
  refine pg_getf X (f_V_179 hG) d_V_interest_4 (px_rd_of (by assumption)) rfl ?_
  refine pg_aload_n X d_V_interest_7 rfl ?_
  refine pg_iload_n X d_V_interest_8 rfl ?_
  refine pc_V (ci := 3) (As := [_]) X Y d_V_interest_9 (c_V_158 hG) (i_V_existingThing hG) (v_V_existingThing hG) (fun r h => by rw [hG.2] at h; cases h; rfl) rfl rfl (Nat.le_of_ble_eq_true rfl) (by rw [hR]; exact ⟨by decide, by decide⟩) (by decide) (by decide) (by rw [hR]; first | decide | (dsimp only [px_rm]; omega)) (by rw [hR]; first | decide | (dsimp only [px_rm]; omega)) (px_rd_of (by assumption)) (t_V_existingThing A hfl R B.2.2.1 Bt (fun t ht et => ?_) kt)
  refine pg_ialdN X d_V_interest_12 (px_rd_of (by assumption)) (by first | assumption | omega) (by first | assumption | omega) ?_
  exact pg_iret X Y d_V_interest_13 rfl (by decide) (by rw [hR]; decide) (by rw [hR]; decide) (k t ht et)
theorem px_sub10 {x : Int32} (h : ¬ 10 ≤ x → False) {d : Nat} (hd : d < 4) : x - 10 = nI d ↔ x = nI (10 + d) := by
  have e10 : (10 : Int32) = nI 10 := rfl
  constructor
  · intro q
    have : x = nI d + 10 := by rw [← q]; exact (Int32.sub_add_cancel x 10).symm
    rw [this, e10, nI_add, Nat.add_comm]
  · intro q
    rw [q, e10, pk_sub (by omega)]
    congr 1
    omega
theorem t_V_far (A : GA G) (hfl : FL l) (R : RV z n h w wt ta π) (B : HF h wd ht nt nd n) {x y g : Int32}
    (k : ∀ a b q, a < wd → b < ht → x = nI a → y = nI b → ((q < nt ∧ g = nI q) ∨ (∃ d, d < nd ∧ q = 6 + d ∧ g = nI (10 + d))) → K (.inl (some (.int (h (6 + q) (12 * b + a))))) π)
    (kt : (¬ ((∃ a b, a < wd ∧ b < ht ∧ x = nI a ∧ y = nI b) ∧ ((∃ t, t < nt ∧ g = nI t) ∨ ∃ d, d < nd ∧ g = nI (10 + d)))) → ∀ z', π.1 < z' → K (.inr IOB) (z', π.2)) :
    px_P l G y_V_far b_V_far 6 (some .int) (px_rt 7 105 2) false [.ref z, .int x, .int y, .int g] π K := by
  have hG := A.1
  have hZ := A.2.1
  refine px_P.intro (by decide) hZ (by simp [Value.category]) (Nat.le_of_ble_eq_true rfl) rfl ?_
  intro Γ hl hR X Y hnm hs hbel
  subst hl
  have ho := R.1
  have hho := R.2.1.o
  have Bt := B.2.2.2.2.2.2.1
  have Bd := B.2.2.2.2.2.2.2.1
  have Bn := B.2.2.2.2.2.2.2.2.1
  have Bw := B.2.2.2.2.1
  have Bh := B.2.2.2.2.2.1
  refine pg_aload_n X d_V_far_0 rfl ?_
  refine pg_iload_n X d_V_far_1 rfl ?_
  refine pg_iload_n X d_V_far_2 rfl ?_
  refine pc_V (ci := 3) (As := [_, _]) X Y d_V_far_3 (c_V_45 hG) (i_V_existingCell hG) (v_V_existingCell hG) (fun r h => by rw [hG.2] at h; cases h; rfl) rfl rfl (Nat.le_of_ble_eq_true rfl) (by rw [hR]; exact ⟨by decide, by decide⟩) (by decide) (by decide) (by rw [hR]; first | decide | (dsimp only [px_rm]; omega)) (by rw [hR]; first | decide | (dsimp only [px_rm]; omega)) (px_rd_of (by assumption)) (t_V_existingCell A hfl R B.1 B.2.1 Bw.2 Bh.2 (fun a b ha hb ea eb => ?_) (fun q => kt (fun q2 => q q2.1)))
  refine pg_istore4 X d_V_far_6 ?_
  refine pg_iload_n X d_V_far_8 rfl ?_
  refine pg_bipush X (10) d_V_far_9 (by decide) ?_
  refine pg_icmp_ge X d_V_far_11 (fun c1 => ?_) (fun c1 => ?_)
  · refine pg_aload_n X d_V_far_22 rfl ?_
    refine pg_iload_n X d_V_far_23 rfl ?_
    refine pg_bipush X (10) d_V_far_24 (by decide) ?_
    refine pg_isub X d_V_far_26 ?_
    refine pc_V (ci := 3) (As := [_]) X Y d_V_far_27 (c_V_100 hG) (i_V_existingDoor hG) (v_V_existingDoor hG) (fun r h => by rw [hG.2] at h; cases h; rfl) rfl rfl (Nat.le_of_ble_eq_true rfl) (by rw [hR]; exact ⟨by decide, by decide⟩) (by decide) (by decide) (by rw [hR]; first | decide | (dsimp only [px_rm]; omega)) (by rw [hR]; first | decide | (dsimp only [px_rm]; omega)) (px_rd_of (by assumption)) (t_V_existingDoor A hfl R B.2.2.2.1 Bd (fun d hd ed => ?_) (fun q => kt (fun q2 => ?_)))
    · have ed2 := (px_sub10 (fun q => q c1) (by omega)).mp ed
      refine pg_istore5 X d_V_far_30 ?_
      refine pg_aload_n X d_V_far_32 rfl ?_
      refine pg_getf X (f_V_19 hG) d_V_far_33 (px_rd_of (by assumption)) rfl ?_
      refine pg_iload X d_V_far_36 rfl ?_
      refine pg_iload X d_V_far_38 rfl ?_
      refine pc_V (ci := 0) (As := [_, _]) X Y d_V_far_40 (c_V_161 hG) (i_H_distanceTo hG) (v_H_distanceTo hG) (fun r h => by rw [hG.2] at h; cases h; rfl) rfl rfl (Nat.le_of_ble_eq_true rfl) (by rw [hR]; exact ⟨by decide, by decide⟩) (by decide) (by decide) (by rw [hR]; first | decide | (dsimp only [px_rm]; omega)) (by rw [hR]; first | decide | (dsimp only [px_rm]; omega)) (px_rd_of (by assumption)) (t_H_distanceTo A R.2.1 (by omega) (g := 6 + d) (by omega) (c := 12 * b + a) (by omega) ?_)
      exact pg_iret X Y d_V_far_43 rfl (by decide) (by rw [hR]; decide) (by rw [hR]; decide) (k a b (6 + d) ha hb ea eb (Or.inr ⟨d, hd, rfl, ed2⟩))
    · rcases q2.2 with ⟨t, ht, et⟩ | ⟨d, hd, ed⟩
      · rw [et] at c1
        exact nI_ge (show t < 10 by omega) (by decide) c1
      · exact q ⟨d, hd, (px_sub10 (fun q => q c1) (by omega)).mpr ed⟩
  · refine pg_aload_n X d_V_far_14 rfl ?_
    refine pg_iload_n X d_V_far_15 rfl ?_
    refine pc_V (ci := 3) (As := [_]) X Y d_V_far_16 (c_V_158 hG) (i_V_existingThing hG) (v_V_existingThing hG) (fun r h => by rw [hG.2] at h; cases h; rfl) rfl rfl (Nat.le_of_ble_eq_true rfl) (by rw [hR]; exact ⟨by decide, by decide⟩) (by decide) (by decide) (by rw [hR]; first | decide | (dsimp only [px_rm]; omega)) (by rw [hR]; first | decide | (dsimp only [px_rm]; omega)) (px_rd_of (by assumption)) (t_V_existingThing A hfl R B.2.2.1 Bt (fun t ht et => ?_) (fun q => kt (fun q2 => ?_)))
    · refine pg_goto X d_V_far_19 ?_
      refine pg_istore5 X d_V_far_30 ?_
      refine pg_aload_n X d_V_far_32 rfl ?_
      refine pg_getf X (f_V_19 hG) d_V_far_33 (px_rd_of (by assumption)) rfl ?_
      refine pg_iload X d_V_far_36 rfl ?_
      refine pg_iload X d_V_far_38 rfl ?_
      refine pc_V (ci := 0) (As := [_, _]) X Y d_V_far_40 (c_V_161 hG) (i_H_distanceTo hG) (v_H_distanceTo hG) (fun r h => by rw [hG.2] at h; cases h; rfl) rfl rfl (Nat.le_of_ble_eq_true rfl) (by rw [hR]; exact ⟨by decide, by decide⟩) (by decide) (by decide) (by rw [hR]; first | decide | (dsimp only [px_rm]; omega)) (by rw [hR]; first | decide | (dsimp only [px_rm]; omega)) (px_rd_of (by assumption)) (t_H_distanceTo A R.2.1 (by omega) (g := t) (by omega) (c := 12 * b + a) (by omega) ?_)
      exact pg_iret X Y d_V_far_43 rfl (by decide) (by rw [hR]; decide) (by rw [hR]; decide) (k a b t ha hb ea eb (Or.inl ⟨ht, et⟩))
    · rcases q2.2 with q3 | ⟨d, hd, ed⟩
      · exact q q3
      · rw [ed] at c1
        exact c1 (nI_le (show 10 ≤ 10 + d by omega) (by omega))
def atV (w : Nat → Nat → Int32) (i : Nat) (a : Int32) : Int32 := if w (6 + i) 4 = 1 then (if a = 0 then irm (w (6 + i) 5) 12 else w (6 + i) 5 / 12) else -1
theorem px_01 {a : Int32} (h0 : ¬ a < 0) (h1 : a ≤ 1) : a = 0 ∨ a = 1 := by
  obtain ⟨j, hj, e⟩ := nI_of2 (M := 1) (n := 1) rfl h0 h1
  obtain rfl | rfl : j = 0 ∨ j = 1 := by omega
  · exact Or.inl e
  · exact Or.inr e
theorem t_V_at (A : GA G) (hfl : FL l) (R : RV z n h w wt ta π) (F : WF w wd ht nt nd tl) {x a : Int32}
    (k : ∀ i, i < tl → x = nI i → (a = 0 ∨ a = 1) → K (.inl (some (.int (atV w i a)))) π) (kt : (¬ ((∃ i, i < tl ∧ x = nI i) ∧ (a = 0 ∨ a = 1))) → ∀ z', π.1 < z' → K (.inr IOB) (z', π.2)) :
    px_P l G y_V_at b_V_at 4 (some .int) (px_rt 7 105 2) false [.ref z, .int x, .int a] π K := by
  have hG := A.1
  have hZ := A.2.1
  refine px_P.intro (by decide) hZ (by simp [Value.category]) (Nat.le_of_ble_eq_true rfl) rfl ?_
  intro Γ hl hR X Y hnm hs hbel
  subst hl
  have ho := R.1
  have Ft := F.2.1
  refine pg_aload_n X d_V_at_0 rfl ?_
  refine pg_iload_n X d_V_at_1 rfl ?_
  refine pc_V (ci := 3) (As := [_]) X Y d_V_at_2 (c_V_124 hG) (i_V_existingVisitor hG) (v_V_existingVisitor hG) (fun r h => by rw [hG.2] at h; cases h; rfl) rfl rfl (Nat.le_of_ble_eq_true rfl) (by rw [hR]; exact ⟨by decide, by decide⟩) (by decide) (by decide) (by rw [hR]; first | decide | (dsimp only [px_rm]; omega)) (by rw [hR]; first | decide | (dsimp only [px_rm]; omega)) (px_rd_of (by assumption)) (t_V_existingVisitor A hfl R F.1 F.2.1 (fun i hi ei => ?_) (fun q => kt (fun q2 => q q2.1)))
  have hv := R.2.2.1.v (i := i) (by omega)
  have bad : ¬ (a = 0 ∨ a = 1) → px_G Γ G (px_Q Γ G false K) false (0 + (px_rt 6 83 1).cells) (0 + (px_rt 6 83 1).slots) 15 [some (.ref z), some (.int x), some (.int a), some (.ref (z + 18 + 6 + i))] [] π := by
    intro q
    exact pt_V X Y A hfl th_IOB d_V_at_15 d_V_at_18 d_V_at_19 d_V_at_21 d_V_at_24 (lm_2 (List.mem_of_getElem? (i := 112) rfl)) (lm_2 (List.mem_of_getElem? (i := 113) rfl)) (lm_1 (List.mem_of_getElem? (i := 11) rfl)) (lm_3 (List.mem_of_getElem? (i := 68) rfl)) (by decide +kernel) (by rw [hR]; decide) (by rw [hR]; decide) (by rw [hR]; decide) (by rw [hR]; decide) hs hbel (kt (fun q2 => q q2.2))
  refine pg_astore3 X d_V_at_5 ?_
  refine pg_iload_n X d_V_at_6 rfl ?_
  refine pg_if_lt X d_V_at_7 (fun c1 => ?_) (fun c1 => ?_)
  · refine bad (fun q => ?_)
    rcases q with q | q <;> rw [q] at c1 <;> exact absurd c1 (by decide)
  refine pg_iload_n X d_V_at_10 rfl ?_
  refine pg_iconst X (1) d_V_at_11 (by decide) ?_
  refine pg_icmp_le X d_V_at_12 (fun c2 => ?_) (fun c2 => ?_)
  · have k := k i hi ei (px_01 c1 c2)
    unfold atV at k
    refine pg_aload_n X d_V_at_25 rfl ?_
    refine pg_getf X (f_V_133 hG) d_V_at_26 (px_rd_of (by assumption)) rfl ?_
    refine pg_iconst X (1) d_V_at_29 (by decide) ?_
    refine pg_icmp_eq X d_V_at_30 (fun c3 => ?_) (fun c3 => ?_)
    · rw [if_pos c3] at k
      refine pg_iload_n X d_V_at_35 rfl ?_
      refine pg_if_ne X d_V_at_36 (fun c4 => ?_) (fun c4 => ?_)
      · rw [if_neg c4] at k
        refine pg_aload_n X d_V_at_49 rfl ?_
        refine pg_getf X (f_V_138 hG) d_V_at_50 (px_rd_of (by assumption)) rfl ?_
        refine pg_bipush X (12) d_V_at_53 (by decide) ?_
        refine pg_idiv X d_V_at_55 (by decide) ?_
        exact pg_iret X Y d_V_at_56 rfl (by decide) (by rw [hR]; decide) (by rw [hR]; decide) (k)
      · rw [if_pos c4] at k
        refine pg_aload_n X d_V_at_39 rfl ?_
        refine pg_getf X (f_V_138 hG) d_V_at_40 (px_rd_of (by assumption)) rfl ?_
        refine pg_bipush X (12) d_V_at_43 (by decide) ?_
        refine pg_irem X d_V_at_45 (by decide) ?_
        refine pg_goto X d_V_at_46 ?_
        exact pg_iret X Y d_V_at_56 rfl (by decide) (by rw [hR]; decide) (by rw [hR]; decide) (k)
    · rw [if_neg c3] at k
      refine pg_iconst X (-1) d_V_at_33 (by decide) ?_
      exact pg_iret X Y d_V_at_34 rfl (by decide) (by rw [hR]; decide) (by rw [hR]; decide) (k)
  · refine bad (fun q => ?_)
    rcases q with q | q <;> rw [q] at c2 <;> exact absurd (by decide) c2
def abV (w : Nat → Nat → Int32) (i : Nat) (a : Int32) : Int32 := if a = 0 then w (6 + i) 4 else if a = 1 then (if 6 ≤ w (6 + i) 6 then w (6 + i) 6 - 6 + 10 else w (6 + i) 6) else w (6 + i) 9
theorem t_V_about (A : GA G) (hfl : FL l) (R : RV z n h w wt ta π) (F : WF w wd ht nt nd tl) {x a : Int32}
    (k : ∀ i, i < tl → x = nI i → (a = 0 ∨ a = 1 ∨ a = 2) → K (.inl (some (.int (abV w i a)))) π) (kt : (¬ ((∃ i, i < tl ∧ x = nI i) ∧ (a = 0 ∨ a = 1 ∨ a = 2))) → ∀ z', π.1 < z' → K (.inr IOB) (z', π.2)) :
    px_P l G y_V_about b_V_about 4 (some .int) (px_rt 7 105 2) false [.ref z, .int x, .int a] π K := by
  have hG := A.1
  have hZ := A.2.1
  refine px_P.intro (by decide) hZ (by simp [Value.category]) (Nat.le_of_ble_eq_true rfl) rfl ?_
  intro Γ hl hR X Y hnm hs hbel
  subst hl
  have ho := R.1
  have Ft := F.2.1
  refine pg_aload_n X d_V_about_0 rfl ?_
  refine pg_iload_n X d_V_about_1 rfl ?_
  refine pc_V (ci := 3) (As := [_]) X Y d_V_about_2 (c_V_124 hG) (i_V_existingVisitor hG) (v_V_existingVisitor hG) (fun r h => by rw [hG.2] at h; cases h; rfl) rfl rfl (Nat.le_of_ble_eq_true rfl) (by rw [hR]; exact ⟨by decide, by decide⟩) (by decide) (by decide) (by rw [hR]; first | decide | (dsimp only [px_rm]; omega)) (by rw [hR]; first | decide | (dsimp only [px_rm]; omega)) (px_rd_of (by assumption)) (t_V_existingVisitor A hfl R F.1 F.2.1 (fun i hi ei => ?_) (fun q => kt (fun q2 => q q2.1)))
  have hv := R.2.2.1.v (i := i) (by omega)
  refine pg_astore3 X d_V_about_5 ?_
  refine pg_iload_n X d_V_about_6 rfl ?_
  by_cases h0 : a = 0
  · have kx := k i hi ei (Or.inl h0)
    unfold abV at kx
    rw [if_pos h0] at kx
    subst h0
    refine pg_tin X d_V_about_7 (by decide) (by decide) rfl (tgt := 32) rfl ?_
    refine pg_aload_n X d_V_about_32 rfl ?_
    refine pg_getf X (f_V_133 hG) d_V_about_33 (px_rd_of (by assumption)) rfl ?_
    exact pg_iret X Y d_V_about_36 rfl (by decide) (by rw [hR]; decide) (by rw [hR]; decide) (kx)
  by_cases h1 : a = 1
  · have kx := k i hi ei (Or.inr (Or.inl h1))
    unfold abV at kx
    rw [if_neg h0, if_pos h1] at kx
    subst h1
    refine pg_tin X d_V_about_7 (by decide) (by decide) rfl (tgt := 37) rfl ?_
    refine pg_aload_n X d_V_about_37 rfl ?_
    refine pg_getf X (f_V_141 hG) d_V_about_38 (px_rd_of (by assumption)) rfl ?_
    refine pg_bipush X (6) d_V_about_41 (by decide) ?_
    refine pg_icmp_ge X d_V_about_43 (fun c1 => ?_) (fun c1 => ?_)
    · rw [if_pos c1] at kx
      refine pg_aload_n X d_V_about_53 rfl ?_
      refine pg_getf X (f_V_141 hG) d_V_about_54 (px_rd_of (by assumption)) rfl ?_
      refine pg_bipush X (6) d_V_about_57 (by decide) ?_
      refine pg_isub X d_V_about_59 ?_
      refine pg_bipush X (10) d_V_about_60 (by decide) ?_
      refine pg_iadd X d_V_about_62 ?_
      exact pg_iret X Y d_V_about_63 rfl (by decide) (by rw [hR]; decide) (by rw [hR]; decide) (kx)
    · rw [if_neg c1] at kx
      refine pg_aload_n X d_V_about_46 rfl ?_
      refine pg_getf X (f_V_141 hG) d_V_about_47 (px_rd_of (by assumption)) rfl ?_
      refine pg_goto X d_V_about_50 ?_
      exact pg_iret X Y d_V_about_63 rfl (by decide) (by rw [hR]; decide) (by rw [hR]; decide) (kx)
  by_cases h2 : a = 2
  · have kx := k i hi ei (Or.inr (Or.inr h2))
    unfold abV at kx
    rw [if_neg h0, if_neg h1] at kx
    subst h2
    refine pg_tin X d_V_about_7 (by decide) (by decide) rfl (tgt := 64) rfl ?_
    refine pg_aload_n X d_V_about_64 rfl ?_
    refine pg_getf X (f_V_144 hG) d_V_about_65 (px_rd_of (by assumption)) rfl ?_
    exact pg_iret X Y d_V_about_68 rfl (by decide) (by rw [hR]; decide) (by rw [hR]; decide) (kx)
  have hout : a.toInt < 0 ∨ 2 < a.toInt := by
    have n0 := lv_neT h0 (a := 0) rfl
    have n1 := lv_neT h1 (a := 1) rfl
    have n2 := lv_neT h2 (a := 2) rfl
    omega
  refine pg_tout X d_V_about_7 hout (tgt := 69) rfl ?_
  exact pt_V X Y A hfl th_IOB d_V_about_69 d_V_about_72 d_V_about_73 d_V_about_75 d_V_about_78 (lm_2 (List.mem_of_getElem? (i := 112) rfl)) (lm_2 (List.mem_of_getElem? (i := 113) rfl)) (lm_1 (List.mem_of_getElem? (i := 11) rfl)) (lm_3 (List.mem_of_getElem? (i := 76) rfl)) (by decide +kernel) (by rw [hR]; decide) (by rw [hR]; decide) (by rw [hR]; decide) (by rw [hR]; decide) hs hbel (kt (fun q2 => by exact q2.2.elim h0 (fun q => q.elim h1 h2)))
def coV (h w : Nat → Nat → Int32) (tl : Nat) (a : Int32) : Int32 := if a = 0 then w 0 1 else if a = 1 then h 0 3 else if a = 2 then h 0 4 else if a = 3 then w 0 0 else if a = 4 then w 0 2 else dueC w (w 0 1) tl - w 0 2 - w 0 3
theorem t_V_count (A : GA G) (hfl : FL l) (R : RV z n h w wt ta π) (F : WF w wd ht nt nd tl) {a : Int32}
    (k : (a = 0 ∨ a = 1 ∨ a = 2 ∨ a = 3 ∨ a = 4 ∨ a = 5) → K (.inl (some (.int (coV h w tl a)))) π) (kt : (¬ (a = 0 ∨ a = 1 ∨ a = 2 ∨ a = 3 ∨ a = 4 ∨ a = 5)) → ∀ z', π.1 < z' → K (.inr IOB) (z', π.2)) :
    px_P l G y_V_count b_V_count 2 (some .int) (px_rt 7 105 1) false [.ref z, .int a] π K := by
  have hG := A.1
  have hZ := A.2.1
  refine px_P.intro (by decide) hZ (by simp [Value.category]) (Nat.le_of_ble_eq_true rfl) rfl ?_
  intro Γ hl hR X Y hnm hs hbel
  subst hl
  have ho := R.1
  have hwo := R.2.2.1.o
  have hho := R.2.1.o
  unfold coV at k
  refine pg_iload_n X d_V_count_0 rfl ?_
  by_cases h0 : a = 0
  · have kx := k (by simp [h0])
    rw [if_pos h0] at kx
    subst h0
    refine pg_tin X d_V_count_1 (by decide) (by decide) rfl (tgt := 40) rfl ?_
    refine pg_aload_n X d_V_count_40 rfl ?_
    refine pg_getf X (f_V_28 hG) d_V_count_41 (px_rd_of (by assumption)) rfl ?_
    refine pg_getf X (f_V_103 hG) d_V_count_44 (px_rd_of (by assumption)) rfl ?_
    exact pg_iret X Y d_V_count_47 rfl (by decide) (by rw [hR]; decide) (by rw [hR]; decide) (kx)
  by_cases h1 : a = 1
  · have kx := k (by simp [h1])
    rw [if_neg h0, if_pos h1] at kx
    subst h1
    refine pg_tin X d_V_count_1 (by decide) (by decide) rfl (tgt := 48) rfl ?_
    refine pg_aload_n X d_V_count_48 rfl ?_
    refine pg_getf X (f_V_19 hG) d_V_count_49 (px_rd_of (by assumption)) rfl ?_
    refine pg_getf X (f_V_71 hG) d_V_count_52 (px_rd_of (by assumption)) rfl ?_
    exact pg_iret X Y d_V_count_55 rfl (by decide) (by rw [hR]; decide) (by rw [hR]; decide) (kx)
  by_cases h2 : a = 2
  · have kx := k (by simp [h2])
    rw [if_neg h0, if_neg h1, if_pos h2] at kx
    subst h2
    refine pg_tin X d_V_count_1 (by decide) (by decide) rfl (tgt := 56) rfl ?_
    refine pg_aload_n X d_V_count_56 rfl ?_
    refine pg_getf X (f_V_19 hG) d_V_count_57 (px_rd_of (by assumption)) rfl ?_
    refine pg_getf X (f_V_83 hG) d_V_count_60 (px_rd_of (by assumption)) rfl ?_
    exact pg_iret X Y d_V_count_63 rfl (by decide) (by rw [hR]; decide) (by rw [hR]; decide) (kx)
  by_cases h3 : a = 3
  · have kx := k (by simp [h3])
    rw [if_neg h0, if_neg h1, if_neg h2, if_pos h3] at kx
    subst h3
    refine pg_tin X d_V_count_1 (by decide) (by decide) rfl (tgt := 64) rfl ?_
    refine pg_aload_n X d_V_count_64 rfl ?_
    refine pg_getf X (f_V_28 hG) d_V_count_65 (px_rd_of (by assumption)) rfl ?_
    refine pg_getf X (f_V_108 hG) d_V_count_68 (px_rd_of (by assumption)) rfl ?_
    exact pg_iret X Y d_V_count_71 rfl (by decide) (by rw [hR]; decide) (by rw [hR]; decide) (kx)
  by_cases h4 : a = 4
  · have kx := k (by simp [h4])
    rw [if_neg h0, if_neg h1, if_neg h2, if_neg h3, if_pos h4] at kx
    subst h4
    refine pg_tin X d_V_count_1 (by decide) (by decide) rfl (tgt := 72) rfl ?_
    refine pg_aload_n X d_V_count_72 rfl ?_
    refine pg_getf X (f_V_28 hG) d_V_count_73 (px_rd_of (by assumption)) rfl ?_
    refine pg_getf X (f_V_121 hG) d_V_count_76 (px_rd_of (by assumption)) rfl ?_
    exact pg_iret X Y d_V_count_79 rfl (by decide) (by rw [hR]; decide) (by rw [hR]; decide) (kx)
  by_cases h5 : a = 5
  · have kx := k (by simp [h5])
    rw [if_neg h0, if_neg h1, if_neg h2, if_neg h3, if_neg h4] at kx
    subst h5
    refine pg_tin X d_V_count_1 (by decide) (by decide) rfl (tgt := 80) rfl ?_
    refine pg_aload_n X d_V_count_80 rfl ?_
    refine pg_getf X (f_V_28 hG) d_V_count_81 (px_rd_of (by assumption)) rfl ?_
    refine pg_aload_n X d_V_count_84 rfl ?_
    refine pg_getf X (f_V_28 hG) d_V_count_85 (px_rd_of (by assumption)) rfl ?_
    refine pg_getf X (f_V_103 hG) d_V_count_88 (px_rd_of (by assumption)) rfl ?_
    refine pc_V (ci := 2) (As := [_]) X Y d_V_count_91 (c_V_182 hG) (i_K_dueBefore hG) (v_K_dueBefore hG) (fun r h => by rw [hG.2] at h; cases h; rfl) rfl rfl (Nat.le_of_ble_eq_true rfl) (by rw [hR]; exact ⟨by decide, by decide⟩) (by decide) (by decide) (by rw [hR]; first | decide | (dsimp only [px_rm]; omega)) (by rw [hR]; first | decide | (dsimp only [px_rm]; omega)) (px_rd_of (by assumption)) (t_K_dueBefore A R.2.2.1 F.1 F.2.1 ?_)
    refine pg_aload_n X d_V_count_94 rfl ?_
    refine pg_getf X (f_V_28 hG) d_V_count_95 (px_rd_of (by assumption)) rfl ?_
    refine pg_getf X (f_V_121 hG) d_V_count_98 (px_rd_of (by assumption)) rfl ?_
    refine pg_isub X d_V_count_101 ?_
    refine pg_aload_n X d_V_count_102 rfl ?_
    refine pg_getf X (f_V_28 hG) d_V_count_103 (px_rd_of (by assumption)) rfl ?_
    refine pg_getf X (f_V_185 hG) d_V_count_106 (px_rd_of (by assumption)) rfl ?_
    refine pg_isub X d_V_count_109 ?_
    exact pg_iret X Y d_V_count_110 rfl (by decide) (by rw [hR]; decide) (by rw [hR]; decide) (kx)
  have hout : a.toInt < 0 ∨ 5 < a.toInt := by
    have n0 := lv_neT h0 (a := 0) rfl
    have n1 := lv_neT h1 (a := 1) rfl
    have n2 := lv_neT h2 (a := 2) rfl
    have n3 := lv_neT h3 (a := 3) rfl
    have n4 := lv_neT h4 (a := 4) rfl
    have n5 := lv_neT h5 (a := 5) rfl
    omega
  refine pg_tout X d_V_count_1 hout (tgt := 111) rfl ?_
  exact pt_V X Y A hfl th_IOB d_V_count_111 d_V_count_114 d_V_count_115 d_V_count_117 d_V_count_120 (lm_2 (List.mem_of_getElem? (i := 112) rfl)) (lm_2 (List.mem_of_getElem? (i := 113) rfl)) (lm_1 (List.mem_of_getElem? (i := 11) rfl)) (lm_3 (List.mem_of_getElem? (i := 76) rfl)) (by decide +kernel) (by rw [hR]; decide) (by rw [hR]; decide) (by rw [hR]; decide) (by rw [hR]; decide) hs hbel (kt (by simp [h0, h1, h2, h3, h4, h5]))
end VRD
