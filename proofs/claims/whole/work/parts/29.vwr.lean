/-! THE CLASS: writes of the house; room, patience, counted, arrives, run, escape, sum -/
section HWR
variable {zh zw n z : Nat} {h h' w wt : Nat → Nat → Int32} {ta : Nat → Int32} {π π0 π1 : px_H}
theorem hc_row {j : Nat} (hj : j < 17) (h0 : j = 0 → h' 0 = h 0) (h2 : j = 1 → h' 2 = h 2) (h3 : j = 2 → h' 3 = h 3) (h4 : j = 3 → h' 4 = h 4) (h1 : j = 4 → h' 1 = h 1) (h5 : j = 16 → h' 5 = h 5) (h6 : 6 ≤ j → j ≠ 16 → h' j = h j) : hc zh n h' j = hc zh n h j := by
  match j, hj with
  | 0, _ => simp only [hc, h0 rfl]
  | 1, _ => simp only [hc, h2 rfl]
  | 2, _ => simp only [hc, h3 rfl]
  | 3, _ => simp only [hc, h4 rfl]
  | 4, _ => simp only [hc, h1 rfl]
  | 5, _ => rfl
  | 6, _ => simp only [hc, h6 (by decide) (by decide)]
  | 7, _ => simp only [hc, h6 (by decide) (by decide)]
  | 8, _ => simp only [hc, h6 (by decide) (by decide)]
  | 9, _ => simp only [hc, h6 (by decide) (by decide)]
  | 10, _ => simp only [hc, h6 (by decide) (by decide)]
  | 11, _ => simp only [hc, h6 (by decide) (by decide)]
  | 12, _ => simp only [hc, h6 (by decide) (by decide)]
  | 13, _ => simp only [hc, h6 (by decide) (by decide)]
  | 14, _ => simp only [hc, h6 (by decide) (by decide)]
  | 15, _ => simp only [hc, h6 (by decide) (by decide)]
  | 16, _ => simp only [hc, h5 rfl]
  | (k + 17), hk => exact absurd hk (by omega)
theorem RH.ws (H : RH zh n h π) {j k : Nat} (hj : (j = 3 ∧ k = 7) ∨ (j = 4 ∧ k = 8) ∨ (j = 5 ∧ k = 9) ∨ (j = 6 ∧ k = 10)) {x : Int32} : RH zh n (up2 h 0 j x) (px_wr π zh (.inr (0, [Value.int (h 0 0), .int (h 0 1), .int (h 0 2), .ref (zh + 4), .ref (zh + 1), .ref (zh + 2), .ref (zh + 3), .int (h 0 3), .int (h 0 4), .int (h 0 5), .int (h 0 6), .ref (zh + 5), .ref (zh + 16)].set k (.int x)))) := by
  refine px_blk.wr (k := 0) H (by omega) ?_ ?_
  · rcases hj with ⟨rfl, rfl⟩ | ⟨rfl, rfl⟩ | ⟨rfl, rfl⟩ | ⟨rfl, rfl⟩ <;> simp [hc, up2]
  · intro i hi hne
    exact hc_row hi (fun q => absurd q hne) (fun q => up2_r (by omega)) (fun q => up2_r (by omega)) (fun q => up2_r (by omega)) (fun q => up2_r (by omega)) (fun q => up2_r (by omega)) (fun q _ => up2_r (by omega))
theorem RH.wa (H : RH zh n h π) {kk r m : Nat} {ty : FieldType} (hr : (kk = 1 ∧ r = 2 ∧ m = 10 ∧ ty = .int) ∨ (kk = 2 ∧ r = 3 ∧ m = 6 ∧ ty = .int) ∨ (kk = 3 ∧ r = 4 ∧ m = 6 ∧ ty = .int) ∨ (kk = 4 ∧ r = 1 ∧ m = n ∧ ty = .boolean) ∨ (kk = 16 ∧ r = 5 ∧ m = n ∧ ty = .int)) {c : Nat} {x : Int32} : RH zh n (up2 h r c x) (px_wr π (zh + kk) (.inl (ty, m, .inl (upd (h r) c x)))) := by
  refine px_blk.wr H (by omega) ?_ ?_
  · rcases hr with ⟨rfl, rfl, rfl, rfl⟩ | ⟨rfl, rfl, rfl, rfl⟩ | ⟨rfl, rfl, rfl, rfl⟩ | ⟨rfl, rfl, rfl, rfl⟩ | ⟨rfl, rfl, rfl, rfl⟩ <;> simp only [hc, up2_u]
  · intro i hi hne
    exact hc_row hi (fun q => up2_r (by omega)) (fun q => up2_r (by omega)) (fun q => up2_r (by omega)) (fun q => up2_r (by omega)) (fun q => up2_r (by omega)) (fun q => up2_r (by omega)) (fun q _ => up2_r (by omega))
theorem hc_ge {g : Nat} (hg : g < 10) : hc zh n h (6 + g) = .inl (.int, n, .inl (h (6 + g))) := by
  obtain rfl | rfl | rfl | rfl | rfl | rfl | rfl | rfl | rfl | rfl : g = 0 ∨ g = 1 ∨ g = 2 ∨ g = 3 ∨ g = 4 ∨ g = 5 ∨ g = 6 ∨ g = 7 ∨ g = 8 ∨ g = 9 := by omega
  all_goals rfl
theorem RH.wr (H : RH zh n h π) {g : Nat} (hg : g < 10) {f : Nat → Int32} : RH zh n (upr h (6 + g) f) (px_wr π (zh + 6 + g) (.inl (.int, n, .inl f))) := by
  rw [Nat.add_assoc]
  refine px_blk.wr H (by omega) ?_ ?_
  · rw [hc_ge hg, upr_s]
  · intro i hi hne
    exact hc_row hi (fun q => upr_n (by omega)) (fun q => upr_n (by omega)) (fun q => upr_n (by omega)) (fun q => upr_n (by omega)) (fun q => upr_n (by omega)) (fun q => upr_n (by omega)) (fun q _ => upr_n (by omega))
theorem SV.house (S : SV z n h w wt ta π0 π) (H : RH (z + 1) n h' π1) (O : px_off (z + 1) 17 π π1) : SV z n h' w wt ta π0 π1 := by
  obtain ⟨⟨r1, r2, r3, r4, r5⟩, O0⟩ := S
  exact ⟨⟨(O.2 z (by omega)).trans r1, H, r3.off O (by omega), r4.off O (by omega), (O.2 _ (by omega)).trans r5⟩, O0.tr (O.mono (by omega) (by omega))⟩
end HWR
section VWR
variable {l : Launch} {G : px_Cg} {π π0 π1 : px_H} {K : Option Value ⊕ String → px_H → Prop} {z n nt nd wd ht tl nw : Nat} {h w wt w' : Nat → Nat → Int32} {ta : Nat → Int32}
theorem t_V_room (A : GA G) (hfl : FL l) (R : RV z n h w wt ta π) {x : Int32}
    (k : 1 ≤ x → x ≤ 16 → ∀ π1, SV z n (up2 h 0 5 x) w wt ta π π1 → K (.inl (some (.int (h 0 5)))) π1) (kt : ¬ (1 ≤ x ∧ x ≤ 16) → ∀ z', π.1 < z' → K (.inr IAE) (z', π.2)) :
    px_P l G y_V_room b_V_room 3 (some .int) (px_rt 6 83 1) true [.ref z, .int x] π K := by
  have hG := A.1
  have hZ := A.2.1
  refine px_P.intro (by decide) hZ (by simp [Value.category]) (Nat.le_of_ble_eq_true rfl) rfl ?_
  intro Γ hl hR X Y hnm hs hbel
  subst hl
  have ho := R.1
  have hho := R.2.1.o
  have bad : ¬ (1 ≤ x ∧ x ≤ 16) → px_G Γ G (px_Q Γ G true K) false 0 0 11 [some (.ref z), some (.int x), none] [] π := by
    intro q
    exact pt_V X Y A hfl th_IAE d_V_room_11 d_V_room_14 d_V_room_15 d_V_room_17 d_V_room_20 (lm_2 (List.mem_of_getElem? (i := 202) rfl)) (lm_2 (List.mem_of_getElem? (i := 203) rfl)) (lm_1 (List.mem_of_getElem? (i := 12) rfl)) (lm_3 (List.mem_of_getElem? (i := 17) rfl)) (by decide +kernel) (by rw [hR]; decide) (by rw [hR]; decide) (by rw [hR]; decide) (by rw [hR]; decide) hs hbel (kt q)
  refine pg_iload_n X d_V_room_0 rfl ?_
  refine pg_iconst X (1) d_V_room_1 (by decide) ?_
  refine pg_icmp_lt X d_V_room_2 (fun c1 => ?_) (fun c1 => ?_)
  · exact bad (fun q => k2_nlt q.1 c1)
  refine pg_iload_n X d_V_room_5 rfl ?_
  refine pg_bipush X (16) d_V_room_6 (by decide) ?_
  refine pg_icmp_le X d_V_room_8 (fun c2 => ?_) (fun c2 => ?_)
  · refine pg_w ?_
    refine pg_aload_n X d_V_room_21 rfl ?_
    refine pg_getf X (f_V_19 hG) d_V_room_22 (px_rd_of (by assumption)) rfl ?_
    refine pg_getf X (f_V_94 hG) d_V_room_25 (px_rd_of (by assumption)) rfl ?_
    refine pg_istore2 X d_V_room_28 ?_
    refine pg_aload_n X d_V_room_29 rfl ?_
    refine pg_getf X (f_V_19 hG) d_V_room_30 (px_rd_of (by assumption)) rfl ?_
    refine pg_iload_n X d_V_room_33 rfl ?_
    refine pg_putf X (f_V_94 hG) (ct_H hG) (nf_H_room hG) rfl rfl d_V_room_34 (by assumption) ?_
    have S := R.self.house (R.2.1.ws (j := 5) (Or.inr (Or.inr (Or.inl ⟨rfl, rfl⟩))) (x := x)) (px_off.wr (by omega) (by omega))
    refine pg_iload_n X d_V_room_37 rfl ?_
    exact pg_iret X Y d_V_room_38 rfl (by decide) (by rw [hR]; decide) (by rw [hR]; decide) (k (k2_le c1) c2 _ S)
  · exact bad (fun q => c2 q.2)
theorem t_V_patience (A : GA G) (hfl : FL l) (R : RV z n h w wt ta π) {x : Int32}
    (k : 1 ≤ x → x ≤ 6 → ∀ π1, SV z n (up2 h 0 6 x) w wt ta π π1 → K (.inl (some (.int (h 0 6)))) π1) (kt : ¬ (1 ≤ x ∧ x ≤ 6) → ∀ z', π.1 < z' → K (.inr IAE) (z', π.2)) :
    px_P l G y_V_patience b_V_patience 3 (some .int) (px_rt 6 83 1) true [.ref z, .int x] π K := by
  have hG := A.1
  have hZ := A.2.1
  refine px_P.intro (by decide) hZ (by simp [Value.category]) (Nat.le_of_ble_eq_true rfl) rfl ?_
  intro Γ hl hR X Y hnm hs hbel
  subst hl
  have ho := R.1
  have hho := R.2.1.o
  have bad : ¬ (1 ≤ x ∧ x ≤ 6) → px_G Γ G (px_Q Γ G true K) false 0 0 11 [some (.ref z), some (.int x), none] [] π := by
    intro q
    exact pt_V X Y A hfl th_IAE d_V_patience_11 d_V_patience_14 d_V_patience_15 d_V_patience_17 d_V_patience_20 (lm_2 (List.mem_of_getElem? (i := 202) rfl)) (lm_2 (List.mem_of_getElem? (i := 203) rfl)) (lm_1 (List.mem_of_getElem? (i := 12) rfl)) (lm_3 (List.mem_of_getElem? (i := 25) rfl)) (by decide +kernel) (by rw [hR]; decide) (by rw [hR]; decide) (by rw [hR]; decide) (by rw [hR]; decide) hs hbel (kt q)
  refine pg_iload_n X d_V_patience_0 rfl ?_
  refine pg_iconst X (1) d_V_patience_1 (by decide) ?_
  refine pg_icmp_lt X d_V_patience_2 (fun c1 => ?_) (fun c1 => ?_)
  · exact bad (fun q => k2_nlt q.1 c1)
  refine pg_iload_n X d_V_patience_5 rfl ?_
  refine pg_bipush X (6) d_V_patience_6 (by decide) ?_
  refine pg_icmp_le X d_V_patience_8 (fun c2 => ?_) (fun c2 => ?_)
  · refine pg_w ?_
    refine pg_aload_n X d_V_patience_21 rfl ?_
    refine pg_getf X (f_V_19 hG) d_V_patience_22 (px_rd_of (by assumption)) rfl ?_
    refine pg_getf X (f_V_98 hG) d_V_patience_25 (px_rd_of (by assumption)) rfl ?_
    refine pg_istore2 X d_V_patience_28 ?_
    refine pg_aload_n X d_V_patience_29 rfl ?_
    refine pg_getf X (f_V_19 hG) d_V_patience_30 (px_rd_of (by assumption)) rfl ?_
    refine pg_iload_n X d_V_patience_33 rfl ?_
    refine pg_putf X (f_V_98 hG) (ct_H hG) (nf_H_patience hG) rfl rfl d_V_patience_34 (by assumption) ?_
    have S := R.self.house (R.2.1.ws (j := 6) (Or.inr (Or.inr (Or.inr ⟨rfl, rfl⟩))) (x := x)) (px_off.wr (by omega) (by omega))
    refine pg_iload_n X d_V_patience_37 rfl ?_
    exact pg_iret X Y d_V_patience_38 rfl (by decide) (by rw [hR]; decide) (by rw [hR]; decide) (k (k2_le c1) c2 _ S)
  · exact bad (fun q => c2 q.2)
theorem SV.tally (S : SV z n h w wt ta π0 π) {f : Nat → Int32} : SV z n h w wt f π0 (px_wr π (z + 62) (.inl (.int, 6, .inl f))) := by
  obtain ⟨⟨r1, r2, r3, r4, r5⟩, O0⟩ := S
  have O : px_off (z + 62) 1 π (px_wr π (z + 62) (.inl (.int, 6, .inl f))) := px_off.wr (by omega) (by omega)
  exact ⟨⟨(O.2 z (by omega)).trans r1, r2.off O (by omega), r3.off O (by omega), r4.off O (by omega), px_wr_self⟩, O0.tr (O.mono (by omega) (by omega))⟩
theorem t_V_counted (A : GA G) (hfl : FL l) (R : RV z n h w wt ta π) (B : HF h wd ht nt nd n) {x y : Int32}
    (k : ∀ t, t < nt → x = nI t → -1 ≤ y → y ≤ 100 → ∀ π1, SV z n h w wt (upd ta t y) π π1 → K (.inl none) π1) (kt1 : (¬ ∃ t, t < nt ∧ x = nI t) → ∀ z', π.1 < z' → K (.inr IOB) (z', π.2)) (kt2 : (∃ t, t < nt ∧ x = nI t) → ¬ (-1 ≤ y ∧ y ≤ 100) → ∀ z', π.1 < z' → K (.inr IAE) (z', π.2)) :
    px_P l G y_V_counted b_V_counted 4 none (px_rt 7 105 2) true [.ref z, .int x, .int y] π K := by
  have hG := A.1
  have hZ := A.2.1
  refine px_P.intro (by decide) hZ (by simp [Value.category]) (Nat.le_of_ble_eq_true rfl) rfl ?_
  intro Γ hl hR X Y hnm hs hbel
  subst hl
  have ho := R.1
  have hta := R.2.2.2.2
  have Bt := B.2.2.2.2.2.2.1
  refine pg_aload_n X d_V_counted_0 rfl ?_
  refine pg_iload_n X d_V_counted_1 rfl ?_
  refine pc_V (ci := 3) (As := [_]) X Y d_V_counted_2 (c_V_158 hG) (i_V_existingThing hG) (v_V_existingThing hG) (fun r h => by rw [hG.2] at h; cases h; rfl) rfl rfl (Nat.le_of_ble_eq_true rfl) (by rw [hR]; exact ⟨by decide, by decide⟩) (by decide) (by decide) (by rw [hR]; first | decide | (dsimp only [px_rm]; omega)) (by rw [hR]; first | decide | (dsimp only [px_rm]; omega)) (px_rd_of (by assumption)) (t_V_existingThing A hfl R B.2.2.1 Bt (fun t ht et => ?_) kt1)
  have bad : ¬ (-1 ≤ y ∧ y ≤ 100) → px_G Γ G (px_Q Γ G true K) false (0 + (px_rt 6 83 1).cells) (0 + (px_rt 6 83 1).slots) 17 [some (.ref z), some (.int x), some (.int y), some (.int (nI t))] [] π := by
    intro q
    exact pt_V X Y A hfl th_IAE d_V_counted_17 d_V_counted_20 d_V_counted_21 d_V_counted_23 d_V_counted_26 (lm_2 (List.mem_of_getElem? (i := 202) rfl)) (lm_2 (List.mem_of_getElem? (i := 203) rfl)) (lm_1 (List.mem_of_getElem? (i := 12) rfl)) (lm_3 (List.mem_of_getElem? (i := 125) rfl)) (by decide +kernel) (by rw [hR]; decide) (by rw [hR]; decide) (by rw [hR]; decide) (by rw [hR]; decide) hs hbel (kt2 ⟨t, ht, et⟩ q)
  refine pg_istore3 X d_V_counted_5 ?_
  refine pg_iload_n X d_V_counted_6 rfl ?_
  refine pg_iconst X (-1) d_V_counted_7 (by decide) ?_
  refine pg_icmp_lt X d_V_counted_8 (fun c1 => ?_) (fun c1 => ?_)
  · exact bad (fun q => k2_nlt q.1 c1)
  refine pg_iload_n X d_V_counted_11 rfl ?_
  refine pg_bipush X (100) d_V_counted_12 (by decide) ?_
  refine pg_icmp_le X d_V_counted_14 (fun c2 => ?_) (fun c2 => ?_)
  · refine pg_w ?_
    refine pg_aload_n X d_V_counted_27 rfl ?_
    refine pg_getf X (f_V_35 hG) d_V_counted_28 (px_rd_of (by assumption)) rfl ?_
    refine pg_iload_n X d_V_counted_31 rfl ?_
    refine pg_iload_n X d_V_counted_32 rfl ?_
    refine pg_iastN X d_V_counted_33 (by assumption) (by first | assumption | omega) (by first | assumption | omega) ?_
    exact pg_vret X Y d_V_counted_34 (by decide) (by rw [hR]; decide) (by rw [hR]; decide) (k t ht et (k2_le c1) c2 _ R.self.tally)
  · exact bad (fun q => c2 q.2)
theorem t_V_arrives (A : GA G) (hfl : FL l) (R : RV z n h w wt ta π) (B : HF h wd ht nt nd n) (h0 : w 0 0 = nI tl) (htl : tl ≤ 16) {s x g : Int32}
    (k : ∀ d, d < nd → x = nI d → w 0 1 ≤ s → s ≤ 400 → 0 ≤ g → g ≤ 3 → tl < 16 → ∀ π1, SV z n h (tlW w tl s (nI (6 + d)) g) wt ta π π1 → K (.inl (some (.int (nI tl)))) π1) (kt1 : (¬ ∃ d, d < nd ∧ x = nI d) → ∀ z', π.1 < z' → K (.inr IOB) (z', π.2))
    (kt2 : (∃ d, d < nd ∧ x = nI d) → ¬ ((w 0 1 ≤ s ∧ s ≤ 400) ∧ 0 ≤ g ∧ g ≤ 3) → ∀ z', π.1 < z' → K (.inr IAE) (z', π.2)) (kt3 : (∃ d, d < nd ∧ x = nI d) → ((w 0 1 ≤ s ∧ s ≤ 400) ∧ 0 ≤ g ∧ g ≤ 3) → ¬ tl < 16 → ∀ z', π.1 < z' → K (.inr ISE) (z', π.2)) :
    px_P l G y_V_arrives b_V_arrives 5 (some .int) (px_rt 7 105 2) true [.ref z, .int s, .int x, .int g] π K := by
  have hG := A.1
  have hZ := A.2.1
  refine px_P.intro (by decide) hZ (by simp [Value.category]) (Nat.le_of_ble_eq_true rfl) rfl ?_
  intro Γ hl hR X Y hnm hs hbel
  subst hl
  have ho := R.1
  have hwo := R.2.2.1.o
  have hwo2 := hwo
  rw [h0] at hwo2
  have Bd := B.2.2.2.2.2.2.2.1
  refine pg_aload_n X d_V_arrives_0 rfl ?_
  refine pg_iload_n X d_V_arrives_1 rfl ?_
  refine pc_V (ci := 3) (As := [_]) X Y d_V_arrives_2 (c_V_100 hG) (i_V_existingDoor hG) (v_V_existingDoor hG) (fun r h => by rw [hG.2] at h; cases h; rfl) rfl rfl (Nat.le_of_ble_eq_true rfl) (by rw [hR]; exact ⟨by decide, by decide⟩) (by decide) (by decide) (by rw [hR]; first | decide | (dsimp only [px_rm]; omega)) (by rw [hR]; first | decide | (dsimp only [px_rm]; omega)) (px_rd_of (by assumption)) (t_V_existingDoor A hfl R B.2.2.2.1 Bd (fun d hd ed => ?_) kt1)
  have bad : ¬ ((w 0 1 ≤ s ∧ s ≤ 400) ∧ 0 ≤ g ∧ g ≤ 3) → px_G Γ G (px_Q Γ G true K) false (0 + (px_rt 6 83 1).cells) (0 + (px_rt 6 83 1).slots) 34 [some (.ref z), some (.int s), some (.int x), some (.int g), some (.int (nI (6 + d)))] [] π := by
    intro q
    exact pt_V X Y A hfl th_IAE d_V_arrives_34 d_V_arrives_37 d_V_arrives_38 d_V_arrives_40 d_V_arrives_43 (lm_2 (List.mem_of_getElem? (i := 202) rfl)) (lm_2 (List.mem_of_getElem? (i := 203) rfl)) (lm_1 (List.mem_of_getElem? (i := 12) rfl)) (lm_3 (List.mem_of_getElem? (i := 38) rfl)) (by decide +kernel) (by rw [hR]; decide) (by rw [hR]; decide) (by rw [hR]; decide) (by rw [hR]; decide) hs hbel (kt2 ⟨d, hd, ed⟩ q)
  clear hwo2
  refine pg_istore4 X d_V_arrives_5 ?_
  refine pg_iload_n X d_V_arrives_7 rfl ?_
  refine pg_aload_n X d_V_arrives_8 rfl ?_
  refine pg_getf X (f_V_28 hG) d_V_arrives_9 (px_rd_of (by assumption)) rfl ?_
  refine pg_getf X (f_V_103 hG) d_V_arrives_12 (px_rd_of (by assumption)) rfl ?_
  refine pg_icmp_lt X d_V_arrives_15 (fun c1 => ?_) (fun c1 => ?_)
  · exact bad (fun q => k2_nlt q.1.1 c1)
  refine pg_iload_n X d_V_arrives_18 rfl ?_
  refine pg_sipush X (400) d_V_arrives_19 (by decide) ?_
  refine pg_icmp_gt X d_V_arrives_22 (fun c2 => ?_) (fun c2 => ?_)
  · exact bad (fun q => k2_nle c2 q.1.2)
  refine pg_iload_n X d_V_arrives_25 rfl ?_
  refine pg_if_lt X d_V_arrives_26 (fun c3 => ?_) (fun c3 => ?_)
  · exact bad (fun q => k2_nlt q.2.1 c3)
  refine pg_iload_n X d_V_arrives_29 rfl ?_
  refine pg_iconst X (3) d_V_arrives_30 (by decide) ?_
  refine pg_icmp_le X d_V_arrives_31 (fun c4 => ?_) (fun c4 => ?_)
  · rw [h0] at hwo
    refine pg_aload_n X d_V_arrives_44 rfl ?_
    refine pg_getf X (f_V_28 hG) d_V_arrives_45 (px_rd_of (by assumption)) rfl ?_
    refine pg_getf X (f_V_108 hG) d_V_arrives_48 (px_rd_of (by assumption)) rfl ?_
    refine pg_bipush X (16) d_V_arrives_51 (by decide) ?_
    refine pg_icmp_lt X d_V_arrives_53 (fun c5 => ?_) (fun c5 => ?_)
    · simp (disch := omega) only [Int32.lt_iff_toInt_lt, Int32.le_iff_toInt_le, nI_toInt, px_l0, px_l1, px_l2, px_l3, px_l4, px_l5, px_l6, px_l10, px_l11, px_l12, px_l16, px_l30, px_l100, px_l400] at c5
      refine pg_w ?_
      refine pg_aload_n X d_V_arrives_66 rfl ?_
      refine pg_getf X (f_V_28 hG) d_V_arrives_67 (px_rd_of (by assumption)) rfl ?_
      refine pg_iload_n X d_V_arrives_70 rfl ?_
      refine pg_iload X d_V_arrives_71 rfl ?_
      refine pg_iload_n X d_V_arrives_73 rfl ?_
      refine pc_V (ci := 2) (As := [_, _, _]) X Y d_V_arrives_74 (c_V_113 hG) (i_K_tell hG) (v_K_tell hG) (fun r h => by rw [hG.2] at h; cases h; rfl) rfl rfl (Nat.le_of_ble_eq_true rfl) (by rw [hR]; exact ⟨by decide, by decide⟩) (by decide) (by decide) (by rw [hR]; first | decide | (dsimp only [px_rm]; omega)) (by rw [hR]; first | decide | (dsimp only [px_rm]; omega)) (px_rd_of (by assumption)) (t_K_tell A R.self.sw h0 (by omega) (fun π1 S1 => ?_))
      exact pg_iret X Y d_V_arrives_77 rfl (by decide) (by rw [hR]; decide) (by rw [hR]; decide) (k d hd ed (k2_le c1) (k2_le c2) (k2_le c3) c4 (by omega) _ (R.self.walk S1))
    · simp (disch := omega) only [Int32.lt_iff_toInt_lt, Int32.le_iff_toInt_le, nI_toInt, px_l0, px_l1, px_l2, px_l3, px_l4, px_l5, px_l6, px_l10, px_l11, px_l12, px_l16, px_l30, px_l100, px_l400] at c5
      exact pt_V X Y A hfl th_ISE d_V_arrives_56 d_V_arrives_59 d_V_arrives_60 d_V_arrives_62 d_V_arrives_65 (lm_2 (List.mem_of_getElem? (i := 218) rfl)) (lm_2 (List.mem_of_getElem? (i := 219) rfl)) (lm_1 (List.mem_of_getElem? (i := 13) rfl)) (lm_3 (List.mem_of_getElem? (i := 39) rfl)) (by decide +kernel) (by rw [hR]; decide) (by rw [hR]; decide) (by rw [hR]; decide) (by rw [hR]; decide) hs hbel (kt3 ⟨d, hd, ed⟩ ⟨⟨k2_le c1, k2_le c2⟩, k2_le c3, c4⟩ (by omega))
  · exact bad (fun q => c4 q.2.2)
noncomputable def rnW (h : Nat → Nat → Int32) (wd ht nt nd tl : Nat) : Nat → (Nat → Nat → Int32) → (Nat → Nat → Int32)
  | 0, w => w
  | s + 1, w => psW h wd ht nt nd tl (rnW h wd ht nt nd tl s w)
theorem rnW_F (B : HF h wd ht nt nd n) (F : WF w wd ht nt nd tl) : ∀ s, WF (rnW h wd ht nt nd tl s w) wd ht nt nd tl
  | 0 => F
  | s + 1 => psW_F B (rnW_F B F s)
theorem px_400 {nw s : Nat} (h1 : nw ≤ 400) (h2 : s ≤ 100) : nI nw + nI s ≤ 400 ↔ nw + s ≤ 400 := by
  rw [nI_add]
  have e : (400 : Int32) = nI 400 := rfl
  rw [e]
  exact nI_leI (by omega) (by decide)
theorem t_V_run (A : GA G) (hfl : FL l) (R : RV z n h w wt ta π) (B : HF h wd ht nt nd n) (F : WF w wd ht nt nd tl) (hnw : w 0 1 = nI nw) (hnw2 : nw ≤ 400) {x : Int32}
    (k : ∀ s, x = nI s → 1 ≤ s → s ≤ 100 → nw + s ≤ 400 → ∀ π1, SV z n h (rnW h wd ht nt nd tl s w) wt ta π π1 → K (.inl (some (.int (rnW h wd ht nt nd tl s w 0 2)))) π1) (kt : (¬ ∃ s, x = nI s ∧ 1 ≤ s ∧ s ≤ 100 ∧ nw + s ≤ 400) → ∀ z', π.1 < z' → K (.inr IAE) (z', π.2)) :
    px_P l G y_V_run b_V_run 3 (some .int) (px_rt 6 114 1) true [.ref z, .int x] π K := by
  have hG := A.1
  have hZ := A.2.1
  refine px_P.intro (by decide) hZ (by simp [Value.category]) (Nat.le_of_ble_eq_true rfl) rfl ?_
  intro Γ hl hR X Y hnm hs hbel
  subst hl
  have ho := R.1
  have hwo := R.2.2.1.o
  rw [hnw] at hwo
  have bad : (¬ ∃ s, x = nI s ∧ 1 ≤ s ∧ s ≤ 100 ∧ nw + s ≤ 400) → px_G Γ G (px_Q Γ G true K) false 0 0 26 [some (.ref z), some (.int x), none] [] π := by
    intro q
    exact pt_V X Y A hfl th_IAE d_V_run_26 d_V_run_29 d_V_run_30 d_V_run_32 d_V_run_35 (lm_2 (List.mem_of_getElem? (i := 202) rfl)) (lm_2 (List.mem_of_getElem? (i := 203) rfl)) (lm_1 (List.mem_of_getElem? (i := 12) rfl)) (lm_3 (List.mem_of_getElem? (i := 55) rfl)) (by decide +kernel) (by rw [hR]; decide) (by rw [hR]; decide) (by rw [hR]; decide) (by rw [hR]; decide) hs hbel (kt q)
  refine pg_iload_n X d_V_run_0 rfl ?_
  refine pg_iconst X (1) d_V_run_1 (by decide) ?_
  refine pg_icmp_lt X d_V_run_2 (fun c1 => ?_) (fun c1 => ?_)
  · refine bad (fun ⟨s, e, h1, h2, h3⟩ => ?_)
    rw [e] at c1
    simp (disch := omega) only [Int32.lt_iff_toInt_lt, Int32.le_iff_toInt_le, nI_toInt, px_l0, px_l1, px_l2, px_l3, px_l4, px_l5, px_l6, px_l10, px_l11, px_l12, px_l16, px_l30, px_l100, px_l400] at c1
    omega
  refine pg_iload_n X d_V_run_5 rfl ?_
  refine pg_bipush X (100) d_V_run_6 (by decide) ?_
  refine pg_icmp_gt X d_V_run_8 (fun c2 => ?_) (fun c2 => ?_)
  · refine bad (fun ⟨s, e, h1, h2, h3⟩ => ?_)
    rw [e] at c2
    simp (disch := omega) only [Int32.lt_iff_toInt_lt, Int32.le_iff_toInt_le, nI_toInt, px_l0, px_l1, px_l2, px_l3, px_l4, px_l5, px_l6, px_l10, px_l11, px_l12, px_l16, px_l30, px_l100, px_l400] at c2
    omega
  obtain ⟨s, hs1, es⟩ := nI_of2 (x := x) (M := 100) (n := 100) rfl (fun q => by
    have : x < 1 := Int32.lt_trans q (by decide)
    exact c1 this) (k2_le c2)
  subst es
  have hs0 : 1 ≤ s := by
    simp (disch := omega) only [Int32.lt_iff_toInt_lt, Int32.le_iff_toInt_le, nI_toInt, px_l0, px_l1, px_l2, px_l3, px_l4, px_l5, px_l6, px_l10, px_l11, px_l12, px_l16, px_l30, px_l100, px_l400] at c1
    omega
  refine pg_aload_n X d_V_run_11 rfl ?_
  refine pg_getf X (f_V_28 hG) d_V_run_12 (px_rd_of (by assumption)) rfl ?_
  refine pg_getf X (f_V_103 hG) d_V_run_15 (px_rd_of (by assumption)) rfl ?_
  refine pg_iload_n X d_V_run_18 rfl ?_
  refine pg_iadd X d_V_run_19 ?_
  refine pg_sipush X (400) d_V_run_20 (by decide) ?_
  refine pg_icmp_le X d_V_run_23 (fun c3 => ?_) (fun c3 => ?_)
  · have hsum := (px_400 hnw2 hs1).mp c3
    refine pg_w ?_
    refine pg_iconst X (0) d_V_run_36 (by decide) ?_
    refine pg_istore2 X d_V_run_37 ?_
    have loop : ∀ f i, i + f = s → ∀ π1, SV z n h (rnW h wd ht nt nd tl i w) wt ta π π1 → px_G Γ G (px_Q Γ G true K) true 0 0 38 [some (.ref z), some (.int (nI s)), some (.int (nI i))] [] π1 := by
      intro f
      induction f with
      | zero =>
        intro i hi π1 S
        have ei : i = s := by omega
        subst ei
        have ho := S.1.1
        have hwo := S.1.2.2.1.o
        refine pg_iload_n X d_V_run_38 rfl ?_
        refine pg_iload_n X d_V_run_39 rfl ?_
        refine pg_icmp_ge X d_V_run_40 (fun c4 => ?_) (fun c4 => ?_)
        · refine pg_aload_n X d_V_run_56 rfl ?_
          refine pg_getf X (f_V_28 hG) d_V_run_57 (px_rd_of (by assumption)) rfl ?_
          refine pg_getf X (f_V_121 hG) d_V_run_60 (px_rd_of (by assumption)) rfl ?_
          exact pg_iret X Y d_V_run_63 rfl (by decide) (by rw [hR]; decide) (by rw [hR]; decide) (k i rfl hs0 hs1 hsum _ S)
        · simp (disch := omega) only [Int32.lt_iff_toInt_lt, Int32.le_iff_toInt_le, nI_toInt, px_l0, px_l1, px_l2, px_l3, px_l4, px_l5, px_l6, px_l10, px_l11, px_l12, px_l16, px_l30, px_l100, px_l400] at c4
          omega
      | succ f ih =>
        intro i hi π1 S
        have ho := S.1.1
        have hwo := S.1.2.2.1.o
        refine pg_iload_n X d_V_run_38 rfl ?_
        refine pg_iload_n X d_V_run_39 rfl ?_
        refine pg_icmp_ge X d_V_run_40 (fun c4 => ?_) (fun c4 => ?_)
        · simp (disch := omega) only [Int32.lt_iff_toInt_lt, Int32.le_iff_toInt_le, nI_toInt, px_l0, px_l1, px_l2, px_l3, px_l4, px_l5, px_l6, px_l10, px_l11, px_l12, px_l16, px_l30, px_l100, px_l400] at c4
          omega
        refine pg_aload_n X d_V_run_43 rfl ?_
        refine pg_getf X (f_V_28 hG) d_V_run_44 (px_rd_of (by assumption)) rfl ?_
        refine pc_V (ci := 2) (As := []) X Y d_V_run_47 (c_V_118 hG) (i_K_passSecond hG) (v_K_passSecond hG) (fun r h => by rw [hG.2] at h; cases h; rfl) rfl rfl (Nat.le_of_ble_eq_true rfl) (by rw [hR]; exact ⟨by decide, by decide⟩) (by decide) (by decide) (by rw [hR]; first | decide | (dsimp only [px_rm]; omega)) (by rw [hR]; first | decide | (dsimp only [px_rm]; omega)) (px_rd_of (by assumption)) (t_K_passSecond A S.sw B (rnW_F B F i) (fun π2 S2 => ?_))
        refine pg_iinc2 X d_V_run_50 ?_
        refine pg_goto X d_V_run_53 ?_
        rw [nI_i1]
        exact ih (i + 1) (by omega) π2 (S.walk S2)
    exact loop s 0 (by omega) π R.self
  · refine bad (fun ⟨s2, e, h1, h2, h3⟩ => ?_)
    have e2 := (nI_eq (by omega) (by omega)).mp e
    subst e2
    exact c3 ((px_400 hnw2 hs1).mpr h3)
end VWR
