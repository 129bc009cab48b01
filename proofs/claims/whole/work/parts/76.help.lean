/-! THE LAW: its helpers walked -/
theorem in01 : vp_in 0 1 := fun h => h.elim (fun h => absurd h (by decide)) (fun h => absurd h (by decide))
abbrev px_oe (o : Nat → Int64) : px_E := .inl (.long, 1, .inr (.inr o))
def wrO (π : px_H) (zo : Nat) (o : Nat → Int64) (v : Int64) : px_H := px_wr π zo (px_oe (vp_updL o (0 : Int32).toNatClampNeg v))
/-- how a call of the class ends inside a helper: an answer that goes into out, or one of the named exceptions, with its code -/
def KL (zo : Nat) (K : Option Value ⊕ String → px_H → Prop) (ex : List (String × Int32)) (r : Option Value ⊕ String) (π' : px_H) : Prop :=
  (∃ (v : Int32) (o' : Nat → Int64), r = .inl (some (.int v)) ∧ π'.2 zo = some (px_oe o') ∧ K (.inl (some (.int 0))) (wrO π' zo o' v.toInt64)) ∨ ∃ (k : String) (c : Int32), r = .inr k ∧ (k, c) ∈ ex ∧ K (.inl (some (.int c))) π'
/-- the same, of a boolean answer -/
def KB (zo : Nat) (K : Option Value ⊕ String → px_H → Prop) (ex : List (String × Int32)) (r : Option Value ⊕ String) (π' : px_H) : Prop :=
  (∃ (v : Int32) (o' : Nat → Int64), r = .inl (some (.int v)) ∧ π'.2 zo = some (px_oe o') ∧ K (.inl (some (.int 0))) (wrO π' zo o' (if v = 0 then 0 else 1))) ∨ ∃ (k : String) (c : Int32), r = .inr k ∧ (k, c) ∈ ex ∧ K (.inl (some (.int c))) π'
/-- the same, of none -/
def KN (K : Option Value ⊕ String → px_H → Prop) (ex : List (String × Int32)) (r : Option Value ⊕ String) (π' : px_H) : Prop :=
  (r = .inl none ∧ K (.inl (some (.int 0))) π') ∨ ∃ (k : String) (c : Int32), r = .inr k ∧ (k, c) ∈ ex ∧ K (.inl (some (.int c))) π'
/-- which exception is of which class -/
def CAT (G : px_Cg) : Prop := (px_ca G IOB IOB ∧ px_ca G IAE IAE ∧ px_ca G ISE ISE) ∧ px_nc G IAE IOB ∧ px_nc G ISE IOB ∧ px_nc G ISE IAE
section HLP
variable {l : Launch} {G : px_Cg} {π : px_H} {K : Option Value ⊕ String → px_H → Prop} {z zo : Nat} {x1 x2 x3 x4 : Int32}
theorem t_L_wall (A : GA G) (Hc : CAT G) (hz : ∃ fs, π.2 z = some (.inr (3, fs))) (Pv : ∀ K', (∀ r π', KB zo K [(IOB, 1)] r π' → K' r π') → px_P l G y_V_wall b_V_wall 5 (some .boolean) (px_rt 7 105 1) true [.ref z, .int x1, .int x2, .int x3] π K') :
    px_PH l G y_L_wall b_L_wall 6 (some .int) hs_L_wall (px_rt 8 170 2) true [.ref z, .int x1, .int x2, .int x3, .ref zo] π K := by
  have hG := A.1
  have hZ := A.2.1
  refine px_PH.intro (by decide) hZ (by simp [Value.category]) (Nat.le_of_ble_eq_true rfl) rfl ?_
  intro Γ hl hR X Y hs hbel
  subst hl
  obtain ⟨fs, hz⟩ := hz
  refine pg_w ?_
  refine pg_aload X d_L_wall_0 rfl ?_
  refine pg_iconst X (0) d_L_wall_2 (by decide) ?_
  refine pg_aload_n X d_L_wall_3 rfl ?_
  refine pg_iload_n X d_L_wall_4 rfl ?_
  refine pg_iload_n X d_L_wall_5 rfl ?_
  refine pg_iload_n X d_L_wall_6 rfl ?_
  refine pc_VH (ci := 3) (As := [_, _, _]) X Y d_L_wall_7 (c_L_7 hG) (i_V_wall hG) (v_V_wall hG) (fun r h => by rw [hG.2] at h; cases h; rfl) rfl rfl (Nat.le_of_ble_eq_true rfl) (by rw [hR]; exact ⟨by decide, by decide⟩) (by decide) (by rw [hR]; decide) (by rw [hR]; decide) (px_rd_of hz) (Pv _ ?_)
  rintro r π' (⟨v, o', rfl, ho, hk⟩ | ⟨k, c, rfl, hm, hk⟩)
  · change px_G Γ G _ true _ _ 10 _ _ π'
    refine pg_if_eq X d_L_wall_10 (fun c1 => ?_) (fun c1 => ?_)
    · rw [if_pos c1] at hk
      refine pg_lconst X (0) d_L_wall_17 (by decide) ?_
      refine pg_last X d_L_wall_18 ho in01 ?_
      refine pg_goto X d_L_wall_19 ?_
      refine pg_iconst X (0) d_L_wall_26 (by decide) ?_
      exact pg_iretH X Y d_L_wall_27 rfl (by decide) (by rw [hR]; decide) (by rw [hR]; decide) hk
    · rw [if_neg c1] at hk
      refine pg_lconst X (1) d_L_wall_13 (by decide) ?_
      refine pg_goto X d_L_wall_14 ?_
      refine pg_last X d_L_wall_18 ho in01 ?_
      refine pg_goto X d_L_wall_19 ?_
      refine pg_iconst X (0) d_L_wall_26 (by decide) ?_
      exact pg_iretH X Y d_L_wall_27 rfl (by decide) (by rw [hR]; decide) (by rw [hR]; decide) hk
  · simp only [List.mem_cons, List.not_mem_nil, or_false, Prod.mk.injEq] at hm
    obtain ⟨rfl, rfl⟩ := hm
    refine ⟨22, ⟨[], ⟨0, 19, 22, 13⟩, [], IOB, rfl, by decide, rfl, by decide, hG.t (lm_2 (List.mem_of_getElem? (i := 103) rfl)), Hc.1.1, fun y hy => by cases hy⟩, fun a => ?_⟩
    refine pg_astore5 X d_L_wall_22 ?_
    refine pg_iconst X (1) d_L_wall_24 (by decide) ?_
    exact pg_iretH X Y d_L_wall_25 rfl (by decide) (by rw [hR]; decide) (by rw [hR]; decide) hk
theorem t_L_thing (A : GA G) (Hc : CAT G) (hz : ∃ fs, π.2 z = some (.inr (3, fs))) (Pv : ∀ K', (∀ r π', KL zo K [(IOB, 1), (IAE, 2), (ISE, 3)] r π' → K' r π') → px_P l G y_V_thing b_V_thing 6 (some .int) (px_rt 7 105 2) true [.ref z, .int x1, .int x2, .int x3, .int x4] π K') :
    px_PH l G y_L_thing b_L_thing 7 (some .int) hs_L_thing (px_rt 8 170 2) true [.ref z, .int x1, .int x2, .int x3, .int x4, .ref zo] π K := by
  have hG := A.1
  have hZ := A.2.1
  refine px_PH.intro (by decide) hZ (by simp [Value.category]) (Nat.le_of_ble_eq_true rfl) rfl ?_
  intro Γ hl hR X Y hs hbel
  subst hl
  obtain ⟨fs, hz⟩ := hz
  refine pg_w ?_
  refine pg_aload X d_L_thing_0 rfl ?_
  refine pg_iconst X (0) d_L_thing_2 (by decide) ?_
  refine pg_aload_n X d_L_thing_3 rfl ?_
  refine pg_iload_n X d_L_thing_4 rfl ?_
  refine pg_iload_n X d_L_thing_5 rfl ?_
  refine pg_iload_n X d_L_thing_6 rfl ?_
  refine pg_iload X d_L_thing_7 rfl ?_
  refine pc_VH (ci := 3) (As := [_, _, _, _]) X Y d_L_thing_9 (c_L_15 hG) (i_V_thing hG) (v_V_thing hG) (fun r h => by rw [hG.2] at h; cases h; rfl) rfl rfl (Nat.le_of_ble_eq_true rfl) (by rw [hR]; exact ⟨by decide, by decide⟩) (by decide) (by rw [hR]; decide) (by rw [hR]; decide) (px_rd_of hz) (Pv _ ?_)
  rintro r π' (⟨v, o', rfl, ho, hk⟩ | ⟨k, c, rfl, hm, hk⟩)
  · change px_G Γ G _ true _ _ 12 _ _ π'
    refine pg_i2l X d_L_thing_12 ?_
    refine pg_last X d_L_thing_13 ho in01 ?_
    refine pg_goto X d_L_thing_14 ?_
    refine pg_iconst X (0) d_L_thing_29 (by decide) ?_
    exact pg_iretH X Y d_L_thing_30 rfl (by decide) (by rw [hR]; decide) (by rw [hR]; decide) hk
  · simp only [List.mem_cons, List.not_mem_nil, or_false, Prod.mk.injEq] at hm
    rcases hm with ⟨rfl, rfl⟩ | ⟨rfl, rfl⟩ | ⟨rfl, rfl⟩
    · refine ⟨17, ⟨[], ⟨0, 14, 17, 13⟩, [⟨0, 14, 21, 19⟩, ⟨0, 14, 25, 21⟩], IOB, rfl, by decide, rfl, by decide, hG.t (lm_2 (List.mem_of_getElem? (i := 103) rfl)), Hc.1.1, fun y hy => by cases hy⟩, fun a => ?_⟩
      refine pg_astore6 X d_L_thing_17 ?_
      refine pg_iconst X (1) d_L_thing_19 (by decide) ?_
      exact pg_iretH X Y d_L_thing_20 rfl (by decide) (by rw [hR]; decide) (by rw [hR]; decide) hk
    · refine ⟨21, ⟨[⟨0, 14, 17, 13⟩], ⟨0, 14, 21, 19⟩, [⟨0, 14, 25, 21⟩], IAE, rfl, by decide, rfl, by decide, hG.t (lm_2 (List.mem_of_getElem? (i := 196) rfl)), Hc.1.2.1, fun y hy => by rw [List.mem_singleton.mp hy]; exact ⟨IOB, by decide, hG.t (lm_2 (List.mem_of_getElem? (i := 103) rfl)), Hc.2.1⟩⟩, fun a => ?_⟩
      refine pg_astore6 X d_L_thing_21 ?_
      refine pg_iconst X (2) d_L_thing_23 (by decide) ?_
      exact pg_iretH X Y d_L_thing_24 rfl (by decide) (by rw [hR]; decide) (by rw [hR]; decide) hk
    · refine ⟨25, ⟨[⟨0, 14, 17, 13⟩, ⟨0, 14, 21, 19⟩], ⟨0, 14, 25, 21⟩, [], ISE, rfl, by decide, rfl, by decide, hG.t (lm_2 (List.mem_of_getElem? (i := 197) rfl)), Hc.1.2.2, fun y hy => (List.mem_cons.mp hy).elim (fun h => by rw [h]; exact ⟨IOB, by decide, hG.t (lm_2 (List.mem_of_getElem? (i := 103) rfl)), Hc.2.2.1⟩) (fun h => by rw [List.mem_singleton.mp h]; exact ⟨IAE, by decide, hG.t (lm_2 (List.mem_of_getElem? (i := 196) rfl)), Hc.2.2.2⟩)⟩, fun a => ?_⟩
      refine pg_astore6 X d_L_thing_25 ?_
      refine pg_iconst X (3) d_L_thing_27 (by decide) ?_
      exact pg_iretH X Y d_L_thing_28 rfl (by decide) (by rw [hR]; decide) (by rw [hR]; decide) hk
theorem t_L_door (A : GA G) (Hc : CAT G) (hz : ∃ fs, π.2 z = some (.inr (3, fs))) (Pv : ∀ K', (∀ r π', KL zo K [(IOB, 1), (ISE, 2)] r π' → K' r π') → px_P l G y_V_door b_V_door 4 (some .int) (px_rt 7 105 2) true [.ref z, .int x1, .int x2] π K') :
    px_PH l G y_L_door b_L_door 5 (some .int) hs_L_door (px_rt 8 170 2) true [.ref z, .int x1, .int x2, .ref zo] π K := by
  have hG := A.1
  have hZ := A.2.1
  refine px_PH.intro (by decide) hZ (by simp [Value.category]) (Nat.le_of_ble_eq_true rfl) rfl ?_
  intro Γ hl hR X Y hs hbel
  subst hl
  obtain ⟨fs, hz⟩ := hz
  refine pg_w ?_
  refine pg_aload_n X d_L_door_0 rfl ?_
  refine pg_iconst X (0) d_L_door_1 (by decide) ?_
  refine pg_aload_n X d_L_door_2 rfl ?_
  refine pg_iload_n X d_L_door_3 rfl ?_
  refine pg_iload_n X d_L_door_4 rfl ?_
  refine pc_VH (ci := 3) (As := [_, _]) X Y d_L_door_5 (c_L_23 hG) (i_V_door hG) (v_V_door hG) (fun r h => by rw [hG.2] at h; cases h; rfl) rfl rfl (Nat.le_of_ble_eq_true rfl) (by rw [hR]; exact ⟨by decide, by decide⟩) (by decide) (by rw [hR]; decide) (by rw [hR]; decide) (px_rd_of hz) (Pv _ ?_)
  rintro r π' (⟨v, o', rfl, ho, hk⟩ | ⟨k, c, rfl, hm, hk⟩)
  · change px_G Γ G _ true _ _ 8 _ _ π'
    refine pg_i2l X d_L_door_8 ?_
    refine pg_last X d_L_door_9 ho in01 ?_
    refine pg_goto X d_L_door_10 ?_
    refine pg_iconst X (0) d_L_door_21 (by decide) ?_
    exact pg_iretH X Y d_L_door_22 rfl (by decide) (by rw [hR]; decide) (by rw [hR]; decide) hk
  · simp only [List.mem_cons, List.not_mem_nil, or_false, Prod.mk.injEq] at hm
    rcases hm with ⟨rfl, rfl⟩ | ⟨rfl, rfl⟩
    · refine ⟨13, ⟨[], ⟨0, 10, 13, 13⟩, [⟨0, 10, 17, 21⟩], IOB, rfl, by decide, rfl, by decide, hG.t (lm_2 (List.mem_of_getElem? (i := 103) rfl)), Hc.1.1, fun y hy => by cases hy⟩, fun a => ?_⟩
      refine pg_astore4 X d_L_door_13 ?_
      refine pg_iconst X (1) d_L_door_15 (by decide) ?_
      exact pg_iretH X Y d_L_door_16 rfl (by decide) (by rw [hR]; decide) (by rw [hR]; decide) hk
    · refine ⟨17, ⟨[⟨0, 10, 13, 13⟩], ⟨0, 10, 17, 21⟩, [], ISE, rfl, by decide, rfl, by decide, hG.t (lm_2 (List.mem_of_getElem? (i := 197) rfl)), Hc.1.2.2, fun y hy => by rw [List.mem_singleton.mp hy]; exact ⟨IOB, by decide, hG.t (lm_2 (List.mem_of_getElem? (i := 103) rfl)), Hc.2.2.1⟩⟩, fun a => ?_⟩
      refine pg_astore4 X d_L_door_17 ?_
      refine pg_iconst X (2) d_L_door_19 (by decide) ?_
      exact pg_iretH X Y d_L_door_20 rfl (by decide) (by rw [hR]; decide) (by rw [hR]; decide) hk
theorem t_L_room (A : GA G) (Hc : CAT G) (hz : ∃ fs, π.2 z = some (.inr (3, fs))) (Pv : ∀ K', (∀ r π', KL zo K [(IAE, 1)] r π' → K' r π') → px_P l G y_V_room b_V_room 3 (some .int) (px_rt 6 83 1) true [.ref z, .int x1] π K') :
    px_PH l G y_L_room b_L_room 4 (some .int) hs_L_room (px_rt 8 170 2) true [.ref z, .int x1, .ref zo] π K := by
  have hG := A.1
  have hZ := A.2.1
  refine px_PH.intro (by decide) hZ (by simp [Value.category]) (Nat.le_of_ble_eq_true rfl) rfl ?_
  intro Γ hl hR X Y hs hbel
  subst hl
  obtain ⟨fs, hz⟩ := hz
  refine pg_w ?_
  refine pg_aload_n X d_L_room_0 rfl ?_
  refine pg_iconst X (0) d_L_room_1 (by decide) ?_
  refine pg_aload_n X d_L_room_2 rfl ?_
  refine pg_iload_n X d_L_room_3 rfl ?_
  refine pc_VH (ci := 3) (As := [_]) X Y d_L_room_4 (c_L_27 hG) (i_V_room hG) (v_V_room hG) (fun r h => by rw [hG.2] at h; cases h; rfl) rfl rfl (Nat.le_of_ble_eq_true rfl) (by rw [hR]; exact ⟨by decide, by decide⟩) (by decide) (by rw [hR]; decide) (by rw [hR]; decide) (px_rd_of hz) (Pv _ ?_)
  rintro r π' (⟨v, o', rfl, ho, hk⟩ | ⟨k, c, rfl, hm, hk⟩)
  · change px_G Γ G _ true _ _ 7 _ _ π'
    refine pg_i2l X d_L_room_7 ?_
    refine pg_last X d_L_room_8 ho in01 ?_
    refine pg_goto X d_L_room_9 ?_
    refine pg_iconst X (0) d_L_room_15 (by decide) ?_
    exact pg_iretH X Y d_L_room_16 rfl (by decide) (by rw [hR]; decide) (by rw [hR]; decide) hk
  · simp only [List.mem_cons, List.not_mem_nil, or_false, Prod.mk.injEq] at hm
    obtain ⟨rfl, rfl⟩ := hm
    refine ⟨12, ⟨[], ⟨0, 9, 12, 19⟩, [], IAE, rfl, by decide, rfl, by decide, hG.t (lm_2 (List.mem_of_getElem? (i := 196) rfl)), Hc.1.2.1, fun y hy => by cases hy⟩, fun a => ?_⟩
    refine pg_astore3 X d_L_room_12 ?_
    refine pg_iconst X (1) d_L_room_13 (by decide) ?_
    exact pg_iretH X Y d_L_room_14 rfl (by decide) (by rw [hR]; decide) (by rw [hR]; decide) hk
theorem t_L_patience (A : GA G) (Hc : CAT G) (hz : ∃ fs, π.2 z = some (.inr (3, fs))) (Pv : ∀ K', (∀ r π', KL zo K [(IAE, 1)] r π' → K' r π') → px_P l G y_V_patience b_V_patience 3 (some .int) (px_rt 6 83 1) true [.ref z, .int x1] π K') :
    px_PH l G y_L_patience b_L_patience 4 (some .int) hs_L_patience (px_rt 8 170 2) true [.ref z, .int x1, .ref zo] π K := by
  have hG := A.1
  have hZ := A.2.1
  refine px_PH.intro (by decide) hZ (by simp [Value.category]) (Nat.le_of_ble_eq_true rfl) rfl ?_
  intro Γ hl hR X Y hs hbel
  subst hl
  obtain ⟨fs, hz⟩ := hz
  refine pg_w ?_
  refine pg_aload_n X d_L_patience_0 rfl ?_
  refine pg_iconst X (0) d_L_patience_1 (by decide) ?_
  refine pg_aload_n X d_L_patience_2 rfl ?_
  refine pg_iload_n X d_L_patience_3 rfl ?_
  refine pc_VH (ci := 3) (As := [_]) X Y d_L_patience_4 (c_L_31 hG) (i_V_patience hG) (v_V_patience hG) (fun r h => by rw [hG.2] at h; cases h; rfl) rfl rfl (Nat.le_of_ble_eq_true rfl) (by rw [hR]; exact ⟨by decide, by decide⟩) (by decide) (by rw [hR]; decide) (by rw [hR]; decide) (px_rd_of hz) (Pv _ ?_)
  rintro r π' (⟨v, o', rfl, ho, hk⟩ | ⟨k, c, rfl, hm, hk⟩)
  · change px_G Γ G _ true _ _ 7 _ _ π'
    refine pg_i2l X d_L_patience_7 ?_
    refine pg_last X d_L_patience_8 ho in01 ?_
    refine pg_goto X d_L_patience_9 ?_
    refine pg_iconst X (0) d_L_patience_15 (by decide) ?_
    exact pg_iretH X Y d_L_patience_16 rfl (by decide) (by rw [hR]; decide) (by rw [hR]; decide) hk
  · simp only [List.mem_cons, List.not_mem_nil, or_false, Prod.mk.injEq] at hm
    obtain ⟨rfl, rfl⟩ := hm
    refine ⟨12, ⟨[], ⟨0, 9, 12, 19⟩, [], IAE, rfl, by decide, rfl, by decide, hG.t (lm_2 (List.mem_of_getElem? (i := 196) rfl)), Hc.1.2.1, fun y hy => by cases hy⟩, fun a => ?_⟩
    refine pg_astore3 X d_L_patience_12 ?_
    refine pg_iconst X (1) d_L_patience_13 (by decide) ?_
    exact pg_iretH X Y d_L_patience_14 rfl (by decide) (by rw [hR]; decide) (by rw [hR]; decide) hk
theorem t_L_arrives (A : GA G) (Hc : CAT G) (hz : ∃ fs, π.2 z = some (.inr (3, fs))) (Pv : ∀ K', (∀ r π', KL zo K [(IOB, 1), (IAE, 2), (ISE, 3)] r π' → K' r π') → px_P l G y_V_arrives b_V_arrives 5 (some .int) (px_rt 7 105 2) true [.ref z, .int x1, .int x2, .int x3] π K') :
    px_PH l G y_L_arrives b_L_arrives 6 (some .int) hs_L_arrives (px_rt 8 170 2) true [.ref z, .int x1, .int x2, .int x3, .ref zo] π K := by
  have hG := A.1
  have hZ := A.2.1
  refine px_PH.intro (by decide) hZ (by simp [Value.category]) (Nat.le_of_ble_eq_true rfl) rfl ?_
  intro Γ hl hR X Y hs hbel
  subst hl
  obtain ⟨fs, hz⟩ := hz
  refine pg_w ?_
  refine pg_aload X d_L_arrives_0 rfl ?_
  refine pg_iconst X (0) d_L_arrives_2 (by decide) ?_
  refine pg_aload_n X d_L_arrives_3 rfl ?_
  refine pg_iload_n X d_L_arrives_4 rfl ?_
  refine pg_iload_n X d_L_arrives_5 rfl ?_
  refine pg_iload_n X d_L_arrives_6 rfl ?_
  refine pc_VH (ci := 3) (As := [_, _, _]) X Y d_L_arrives_7 (c_L_34 hG) (i_V_arrives hG) (v_V_arrives hG) (fun r h => by rw [hG.2] at h; cases h; rfl) rfl rfl (Nat.le_of_ble_eq_true rfl) (by rw [hR]; exact ⟨by decide, by decide⟩) (by decide) (by rw [hR]; decide) (by rw [hR]; decide) (px_rd_of hz) (Pv _ ?_)
  rintro r π' (⟨v, o', rfl, ho, hk⟩ | ⟨k, c, rfl, hm, hk⟩)
  · change px_G Γ G _ true _ _ 10 _ _ π'
    refine pg_i2l X d_L_arrives_10 ?_
    refine pg_last X d_L_arrives_11 ho in01 ?_
    refine pg_goto X d_L_arrives_12 ?_
    refine pg_iconst X (0) d_L_arrives_27 (by decide) ?_
    exact pg_iretH X Y d_L_arrives_28 rfl (by decide) (by rw [hR]; decide) (by rw [hR]; decide) hk
  · simp only [List.mem_cons, List.not_mem_nil, or_false, Prod.mk.injEq] at hm
    rcases hm with ⟨rfl, rfl⟩ | ⟨rfl, rfl⟩ | ⟨rfl, rfl⟩
    · refine ⟨15, ⟨[], ⟨0, 12, 15, 13⟩, [⟨0, 12, 19, 19⟩, ⟨0, 12, 23, 21⟩], IOB, rfl, by decide, rfl, by decide, hG.t (lm_2 (List.mem_of_getElem? (i := 103) rfl)), Hc.1.1, fun y hy => by cases hy⟩, fun a => ?_⟩
      refine pg_astore5 X d_L_arrives_15 ?_
      refine pg_iconst X (1) d_L_arrives_17 (by decide) ?_
      exact pg_iretH X Y d_L_arrives_18 rfl (by decide) (by rw [hR]; decide) (by rw [hR]; decide) hk
    · refine ⟨19, ⟨[⟨0, 12, 15, 13⟩], ⟨0, 12, 19, 19⟩, [⟨0, 12, 23, 21⟩], IAE, rfl, by decide, rfl, by decide, hG.t (lm_2 (List.mem_of_getElem? (i := 196) rfl)), Hc.1.2.1, fun y hy => by rw [List.mem_singleton.mp hy]; exact ⟨IOB, by decide, hG.t (lm_2 (List.mem_of_getElem? (i := 103) rfl)), Hc.2.1⟩⟩, fun a => ?_⟩
      refine pg_astore5 X d_L_arrives_19 ?_
      refine pg_iconst X (2) d_L_arrives_21 (by decide) ?_
      exact pg_iretH X Y d_L_arrives_22 rfl (by decide) (by rw [hR]; decide) (by rw [hR]; decide) hk
    · refine ⟨23, ⟨[⟨0, 12, 15, 13⟩, ⟨0, 12, 19, 19⟩], ⟨0, 12, 23, 21⟩, [], ISE, rfl, by decide, rfl, by decide, hG.t (lm_2 (List.mem_of_getElem? (i := 197) rfl)), Hc.1.2.2, fun y hy => (List.mem_cons.mp hy).elim (fun h => by rw [h]; exact ⟨IOB, by decide, hG.t (lm_2 (List.mem_of_getElem? (i := 103) rfl)), Hc.2.2.1⟩) (fun h => by rw [List.mem_singleton.mp h]; exact ⟨IAE, by decide, hG.t (lm_2 (List.mem_of_getElem? (i := 196) rfl)), Hc.2.2.2⟩)⟩, fun a => ?_⟩
      refine pg_astore5 X d_L_arrives_23 ?_
      refine pg_iconst X (3) d_L_arrives_25 (by decide) ?_
      exact pg_iretH X Y d_L_arrives_26 rfl (by decide) (by rw [hR]; decide) (by rw [hR]; decide) hk
theorem t_L_run (A : GA G) (Hc : CAT G) (hz : ∃ fs, π.2 z = some (.inr (3, fs))) (Pv : ∀ K', (∀ r π', KL zo K [(IAE, 1)] r π' → K' r π') → px_P l G y_V_run b_V_run 3 (some .int) (px_rt 6 114 1) true [.ref z, .int x1] π K') :
    px_PH l G y_L_run b_L_run 4 (some .int) hs_L_run (px_rt 8 170 2) true [.ref z, .int x1, .ref zo] π K := by
  have hG := A.1
  have hZ := A.2.1
  refine px_PH.intro (by decide) hZ (by simp [Value.category]) (Nat.le_of_ble_eq_true rfl) rfl ?_
  intro Γ hl hR X Y hs hbel
  subst hl
  obtain ⟨fs, hz⟩ := hz
  refine pg_w ?_
  refine pg_aload_n X d_L_run_0 rfl ?_
  refine pg_iconst X (0) d_L_run_1 (by decide) ?_
  refine pg_aload_n X d_L_run_2 rfl ?_
  refine pg_iload_n X d_L_run_3 rfl ?_
  refine pc_VH (ci := 3) (As := [_]) X Y d_L_run_4 (c_L_38 hG) (i_V_run hG) (v_V_run hG) (fun r h => by rw [hG.2] at h; cases h; rfl) rfl rfl (Nat.le_of_ble_eq_true rfl) (by rw [hR]; exact ⟨by decide, by decide⟩) (by decide) (by rw [hR]; decide) (by rw [hR]; decide) (px_rd_of hz) (Pv _ ?_)
  rintro r π' (⟨v, o', rfl, ho, hk⟩ | ⟨k, c, rfl, hm, hk⟩)
  · change px_G Γ G _ true _ _ 7 _ _ π'
    refine pg_i2l X d_L_run_7 ?_
    refine pg_last X d_L_run_8 ho in01 ?_
    refine pg_goto X d_L_run_9 ?_
    refine pg_iconst X (0) d_L_run_15 (by decide) ?_
    exact pg_iretH X Y d_L_run_16 rfl (by decide) (by rw [hR]; decide) (by rw [hR]; decide) hk
  · simp only [List.mem_cons, List.not_mem_nil, or_false, Prod.mk.injEq] at hm
    obtain ⟨rfl, rfl⟩ := hm
    refine ⟨12, ⟨[], ⟨0, 9, 12, 19⟩, [], IAE, rfl, by decide, rfl, by decide, hG.t (lm_2 (List.mem_of_getElem? (i := 196) rfl)), Hc.1.2.1, fun y hy => by cases hy⟩, fun a => ?_⟩
    refine pg_astore3 X d_L_run_12 ?_
    refine pg_iconst X (1) d_L_run_13 (by decide) ?_
    exact pg_iretH X Y d_L_run_14 rfl (by decide) (by rw [hR]; decide) (by rw [hR]; decide) hk
theorem t_L_at (A : GA G) (Hc : CAT G) (hz : ∃ fs, π.2 z = some (.inr (3, fs))) (Pv : ∀ K', (∀ r π', KL zo K [(IOB, 1)] r π' → K' r π') → px_P l G y_V_at b_V_at 4 (some .int) (px_rt 7 105 2) false [.ref z, .int x1, .int x2] π K') :
    px_PH l G y_L_at b_L_at 5 (some .int) hs_L_at (px_rt 8 170 2) true [.ref z, .int x1, .int x2, .ref zo] π K := by
  have hG := A.1
  have hZ := A.2.1
  refine px_PH.intro (by decide) hZ (by simp [Value.category]) (Nat.le_of_ble_eq_true rfl) rfl ?_
  intro Γ hl hR X Y hs hbel
  subst hl
  obtain ⟨fs, hz⟩ := hz
  refine pg_w ?_
  refine pg_aload_n X d_L_at_0 rfl ?_
  refine pg_iconst X (0) d_L_at_1 (by decide) ?_
  refine pg_aload_n X d_L_at_2 rfl ?_
  refine pg_iload_n X d_L_at_3 rfl ?_
  refine pg_iload_n X d_L_at_4 rfl ?_
  refine pc_VH (ci := 3) (As := [_, _]) X Y d_L_at_5 (c_L_41 hG) (i_V_at hG) (v_V_at hG) (fun r h => by rw [hG.2] at h; cases h; rfl) rfl rfl (Nat.le_of_ble_eq_true rfl) (by rw [hR]; exact ⟨by decide, by decide⟩) (by decide) (by rw [hR]; decide) (by rw [hR]; decide) (px_rd_of hz) (Pv _ ?_)
  rintro r π' (⟨v, o', rfl, ho, hk⟩ | ⟨k, c, rfl, hm, hk⟩)
  · change px_G Γ G _ true _ _ 8 _ _ π'
    refine pg_i2l X d_L_at_8 ?_
    refine pg_last X d_L_at_9 ho in01 ?_
    refine pg_goto X d_L_at_10 ?_
    refine pg_iconst X (0) d_L_at_17 (by decide) ?_
    exact pg_iretH X Y d_L_at_18 rfl (by decide) (by rw [hR]; decide) (by rw [hR]; decide) hk
  · simp only [List.mem_cons, List.not_mem_nil, or_false, Prod.mk.injEq] at hm
    obtain ⟨rfl, rfl⟩ := hm
    refine ⟨13, ⟨[], ⟨0, 10, 13, 13⟩, [], IOB, rfl, by decide, rfl, by decide, hG.t (lm_2 (List.mem_of_getElem? (i := 103) rfl)), Hc.1.1, fun y hy => by cases hy⟩, fun a => ?_⟩
    refine pg_astore4 X d_L_at_13 ?_
    refine pg_iconst X (1) d_L_at_15 (by decide) ?_
    exact pg_iretH X Y d_L_at_16 rfl (by decide) (by rw [hR]; decide) (by rw [hR]; decide) hk
theorem t_L_about (A : GA G) (Hc : CAT G) (hz : ∃ fs, π.2 z = some (.inr (3, fs))) (Pv : ∀ K', (∀ r π', KL zo K [(IOB, 1)] r π' → K' r π') → px_P l G y_V_about b_V_about 4 (some .int) (px_rt 7 105 2) false [.ref z, .int x1, .int x2] π K') :
    px_PH l G y_L_about b_L_about 5 (some .int) hs_L_about (px_rt 8 170 2) true [.ref z, .int x1, .int x2, .ref zo] π K := by
  have hG := A.1
  have hZ := A.2.1
  refine px_PH.intro (by decide) hZ (by simp [Value.category]) (Nat.le_of_ble_eq_true rfl) rfl ?_
  intro Γ hl hR X Y hs hbel
  subst hl
  obtain ⟨fs, hz⟩ := hz
  refine pg_w ?_
  refine pg_aload_n X d_L_about_0 rfl ?_
  refine pg_iconst X (0) d_L_about_1 (by decide) ?_
  refine pg_aload_n X d_L_about_2 rfl ?_
  refine pg_iload_n X d_L_about_3 rfl ?_
  refine pg_iload_n X d_L_about_4 rfl ?_
  refine pc_VH (ci := 3) (As := [_, _]) X Y d_L_about_5 (c_L_44 hG) (i_V_about hG) (v_V_about hG) (fun r h => by rw [hG.2] at h; cases h; rfl) rfl rfl (Nat.le_of_ble_eq_true rfl) (by rw [hR]; exact ⟨by decide, by decide⟩) (by decide) (by rw [hR]; decide) (by rw [hR]; decide) (px_rd_of hz) (Pv _ ?_)
  rintro r π' (⟨v, o', rfl, ho, hk⟩ | ⟨k, c, rfl, hm, hk⟩)
  · change px_G Γ G _ true _ _ 8 _ _ π'
    refine pg_i2l X d_L_about_8 ?_
    refine pg_last X d_L_about_9 ho in01 ?_
    refine pg_goto X d_L_about_10 ?_
    refine pg_iconst X (0) d_L_about_17 (by decide) ?_
    exact pg_iretH X Y d_L_about_18 rfl (by decide) (by rw [hR]; decide) (by rw [hR]; decide) hk
  · simp only [List.mem_cons, List.not_mem_nil, or_false, Prod.mk.injEq] at hm
    obtain ⟨rfl, rfl⟩ := hm
    refine ⟨13, ⟨[], ⟨0, 10, 13, 13⟩, [], IOB, rfl, by decide, rfl, by decide, hG.t (lm_2 (List.mem_of_getElem? (i := 103) rfl)), Hc.1.1, fun y hy => by cases hy⟩, fun a => ?_⟩
    refine pg_astore4 X d_L_about_13 ?_
    refine pg_iconst X (1) d_L_about_15 (by decide) ?_
    exact pg_iretH X Y d_L_about_16 rfl (by decide) (by rw [hR]; decide) (by rw [hR]; decide) hk
theorem t_L_crowd (A : GA G) (Hc : CAT G) (hz : ∃ fs, π.2 z = some (.inr (3, fs))) (Pv : ∀ K', (∀ r π', KL zo K [(IOB, 1)] r π' → K' r π') → px_P l G y_V_crowd b_V_crowd 3 (some .int) (px_rt 7 105 1) false [.ref z, .int x1, .int x2] π K') :
    px_PH l G y_L_crowd b_L_crowd 5 (some .int) hs_L_crowd (px_rt 8 170 2) true [.ref z, .int x1, .int x2, .ref zo] π K := by
  have hG := A.1
  have hZ := A.2.1
  refine px_PH.intro (by decide) hZ (by simp [Value.category]) (Nat.le_of_ble_eq_true rfl) rfl ?_
  intro Γ hl hR X Y hs hbel
  subst hl
  obtain ⟨fs, hz⟩ := hz
  refine pg_w ?_
  refine pg_aload_n X d_L_crowd_0 rfl ?_
  refine pg_iconst X (0) d_L_crowd_1 (by decide) ?_
  refine pg_aload_n X d_L_crowd_2 rfl ?_
  refine pg_iload_n X d_L_crowd_3 rfl ?_
  refine pg_iload_n X d_L_crowd_4 rfl ?_
  refine pc_VH (ci := 3) (As := [_, _]) X Y d_L_crowd_5 (c_L_47 hG) (i_V_crowd hG) (v_V_crowd hG) (fun r h => by rw [hG.2] at h; cases h; rfl) rfl rfl (Nat.le_of_ble_eq_true rfl) (by rw [hR]; exact ⟨by decide, by decide⟩) (by decide) (by rw [hR]; decide) (by rw [hR]; decide) (px_rd_of hz) (Pv _ ?_)
  rintro r π' (⟨v, o', rfl, ho, hk⟩ | ⟨k, c, rfl, hm, hk⟩)
  · change px_G Γ G _ true _ _ 8 _ _ π'
    refine pg_i2l X d_L_crowd_8 ?_
    refine pg_last X d_L_crowd_9 ho in01 ?_
    refine pg_goto X d_L_crowd_10 ?_
    refine pg_iconst X (0) d_L_crowd_17 (by decide) ?_
    exact pg_iretH X Y d_L_crowd_18 rfl (by decide) (by rw [hR]; decide) (by rw [hR]; decide) hk
  · simp only [List.mem_cons, List.not_mem_nil, or_false, Prod.mk.injEq] at hm
    obtain ⟨rfl, rfl⟩ := hm
    refine ⟨13, ⟨[], ⟨0, 10, 13, 13⟩, [], IOB, rfl, by decide, rfl, by decide, hG.t (lm_2 (List.mem_of_getElem? (i := 103) rfl)), Hc.1.1, fun y hy => by cases hy⟩, fun a => ?_⟩
    refine pg_astore4 X d_L_crowd_13 ?_
    refine pg_iconst X (1) d_L_crowd_15 (by decide) ?_
    exact pg_iretH X Y d_L_crowd_16 rfl (by decide) (by rw [hR]; decide) (by rw [hR]; decide) hk
theorem t_L_stayed (A : GA G) (Hc : CAT G) (hz : ∃ fs, π.2 z = some (.inr (3, fs))) (Pv : ∀ K', (∀ r π', KL zo K [(IOB, 1)] r π' → K' r π') → px_P l G y_V_stayed b_V_stayed 3 (some .int) (px_rt 7 105 1) false [.ref z, .int x1, .int x2] π K') :
    px_PH l G y_L_stayed b_L_stayed 5 (some .int) hs_L_stayed (px_rt 8 170 2) true [.ref z, .int x1, .int x2, .ref zo] π K := by
  have hG := A.1
  have hZ := A.2.1
  refine px_PH.intro (by decide) hZ (by simp [Value.category]) (Nat.le_of_ble_eq_true rfl) rfl ?_
  intro Γ hl hR X Y hs hbel
  subst hl
  obtain ⟨fs, hz⟩ := hz
  refine pg_w ?_
  refine pg_aload_n X d_L_stayed_0 rfl ?_
  refine pg_iconst X (0) d_L_stayed_1 (by decide) ?_
  refine pg_aload_n X d_L_stayed_2 rfl ?_
  refine pg_iload_n X d_L_stayed_3 rfl ?_
  refine pg_iload_n X d_L_stayed_4 rfl ?_
  refine pc_VH (ci := 3) (As := [_, _]) X Y d_L_stayed_5 (c_L_50 hG) (i_V_stayed hG) (v_V_stayed hG) (fun r h => by rw [hG.2] at h; cases h; rfl) rfl rfl (Nat.le_of_ble_eq_true rfl) (by rw [hR]; exact ⟨by decide, by decide⟩) (by decide) (by rw [hR]; decide) (by rw [hR]; decide) (px_rd_of hz) (Pv _ ?_)
  rintro r π' (⟨v, o', rfl, ho, hk⟩ | ⟨k, c, rfl, hm, hk⟩)
  · change px_G Γ G _ true _ _ 8 _ _ π'
    refine pg_i2l X d_L_stayed_8 ?_
    refine pg_last X d_L_stayed_9 ho in01 ?_
    refine pg_goto X d_L_stayed_10 ?_
    refine pg_iconst X (0) d_L_stayed_17 (by decide) ?_
    exact pg_iretH X Y d_L_stayed_18 rfl (by decide) (by rw [hR]; decide) (by rw [hR]; decide) hk
  · simp only [List.mem_cons, List.not_mem_nil, or_false, Prod.mk.injEq] at hm
    obtain ⟨rfl, rfl⟩ := hm
    refine ⟨13, ⟨[], ⟨0, 10, 13, 13⟩, [], IOB, rfl, by decide, rfl, by decide, hG.t (lm_2 (List.mem_of_getElem? (i := 103) rfl)), Hc.1.1, fun y hy => by cases hy⟩, fun a => ?_⟩
    refine pg_astore4 X d_L_stayed_13 ?_
    refine pg_iconst X (1) d_L_stayed_15 (by decide) ?_
    exact pg_iretH X Y d_L_stayed_16 rfl (by decide) (by rw [hR]; decide) (by rw [hR]; decide) hk
theorem t_L_through (A : GA G) (Hc : CAT G) (hz : ∃ fs, π.2 z = some (.inr (3, fs))) (Pv : ∀ K', (∀ r π', KL zo K [(IOB, 1)] r π' → K' r π') → px_P l G y_V_through b_V_through 4 (some .int) (px_rt 7 105 1) false [.ref z, .int x1, .int x2] π K') :
    px_PH l G y_L_through b_L_through 5 (some .int) hs_L_through (px_rt 8 170 2) true [.ref z, .int x1, .int x2, .ref zo] π K := by
  have hG := A.1
  have hZ := A.2.1
  refine px_PH.intro (by decide) hZ (by simp [Value.category]) (Nat.le_of_ble_eq_true rfl) rfl ?_
  intro Γ hl hR X Y hs hbel
  subst hl
  obtain ⟨fs, hz⟩ := hz
  refine pg_w ?_
  refine pg_aload_n X d_L_through_0 rfl ?_
  refine pg_iconst X (0) d_L_through_1 (by decide) ?_
  refine pg_aload_n X d_L_through_2 rfl ?_
  refine pg_iload_n X d_L_through_3 rfl ?_
  refine pg_iload_n X d_L_through_4 rfl ?_
  refine pc_VH (ci := 3) (As := [_, _]) X Y d_L_through_5 (c_L_53 hG) (i_V_through hG) (v_V_through hG) (fun r h => by rw [hG.2] at h; cases h; rfl) rfl rfl (Nat.le_of_ble_eq_true rfl) (by rw [hR]; exact ⟨by decide, by decide⟩) (by decide) (by rw [hR]; decide) (by rw [hR]; decide) (px_rd_of hz) (Pv _ ?_)
  rintro r π' (⟨v, o', rfl, ho, hk⟩ | ⟨k, c, rfl, hm, hk⟩)
  · change px_G Γ G _ true _ _ 8 _ _ π'
    refine pg_i2l X d_L_through_8 ?_
    refine pg_last X d_L_through_9 ho in01 ?_
    refine pg_goto X d_L_through_10 ?_
    refine pg_iconst X (0) d_L_through_17 (by decide) ?_
    exact pg_iretH X Y d_L_through_18 rfl (by decide) (by rw [hR]; decide) (by rw [hR]; decide) hk
  · simp only [List.mem_cons, List.not_mem_nil, or_false, Prod.mk.injEq] at hm
    obtain ⟨rfl, rfl⟩ := hm
    refine ⟨13, ⟨[], ⟨0, 10, 13, 13⟩, [], IOB, rfl, by decide, rfl, by decide, hG.t (lm_2 (List.mem_of_getElem? (i := 103) rfl)), Hc.1.1, fun y hy => by cases hy⟩, fun a => ?_⟩
    refine pg_astore4 X d_L_through_13 ?_
    refine pg_iconst X (1) d_L_through_15 (by decide) ?_
    exact pg_iretH X Y d_L_through_16 rfl (by decide) (by rw [hR]; decide) (by rw [hR]; decide) hk
theorem t_L_seen (A : GA G) (Hc : CAT G) (hz : ∃ fs, π.2 z = some (.inr (3, fs))) (Pv : ∀ K', (∀ r π', KL zo K [(IOB, 1)] r π' → K' r π') → px_P l G y_V_seen b_V_seen 2 (some .int) (px_rt 7 105 1) false [.ref z, .int x1] π K') :
    px_PH l G y_L_seen b_L_seen 4 (some .int) hs_L_seen (px_rt 8 170 2) true [.ref z, .int x1, .ref zo] π K := by
  have hG := A.1
  have hZ := A.2.1
  refine px_PH.intro (by decide) hZ (by simp [Value.category]) (Nat.le_of_ble_eq_true rfl) rfl ?_
  intro Γ hl hR X Y hs hbel
  subst hl
  obtain ⟨fs, hz⟩ := hz
  refine pg_w ?_
  refine pg_aload_n X d_L_seen_0 rfl ?_
  refine pg_iconst X (0) d_L_seen_1 (by decide) ?_
  refine pg_aload_n X d_L_seen_2 rfl ?_
  refine pg_iload_n X d_L_seen_3 rfl ?_
  refine pc_VH (ci := 3) (As := [_]) X Y d_L_seen_4 (c_L_57 hG) (i_V_seen hG) (v_V_seen hG) (fun r h => by rw [hG.2] at h; cases h; rfl) rfl rfl (Nat.le_of_ble_eq_true rfl) (by rw [hR]; exact ⟨by decide, by decide⟩) (by decide) (by rw [hR]; decide) (by rw [hR]; decide) (px_rd_of hz) (Pv _ ?_)
  rintro r π' (⟨v, o', rfl, ho, hk⟩ | ⟨k, c, rfl, hm, hk⟩)
  · change px_G Γ G _ true _ _ 7 _ _ π'
    refine pg_i2l X d_L_seen_7 ?_
    refine pg_last X d_L_seen_8 ho in01 ?_
    refine pg_goto X d_L_seen_9 ?_
    refine pg_iconst X (0) d_L_seen_15 (by decide) ?_
    exact pg_iretH X Y d_L_seen_16 rfl (by decide) (by rw [hR]; decide) (by rw [hR]; decide) hk
  · simp only [List.mem_cons, List.not_mem_nil, or_false, Prod.mk.injEq] at hm
    obtain ⟨rfl, rfl⟩ := hm
    refine ⟨12, ⟨[], ⟨0, 9, 12, 13⟩, [], IOB, rfl, by decide, rfl, by decide, hG.t (lm_2 (List.mem_of_getElem? (i := 103) rfl)), Hc.1.1, fun y hy => by cases hy⟩, fun a => ?_⟩
    refine pg_astore3 X d_L_seen_12 ?_
    refine pg_iconst X (1) d_L_seen_13 (by decide) ?_
    exact pg_iretH X Y d_L_seen_14 rfl (by decide) (by rw [hR]; decide) (by rw [hR]; decide) hk
theorem t_L_far (A : GA G) (Hc : CAT G) (hz : ∃ fs, π.2 z = some (.inr (3, fs))) (Pv : ∀ K', (∀ r π', KL zo K [(IOB, 1)] r π' → K' r π') → px_P l G y_V_far b_V_far 6 (some .int) (px_rt 7 105 2) false [.ref z, .int x1, .int x2, .int x3] π K') :
    px_PH l G y_L_far b_L_far 6 (some .int) hs_L_far (px_rt 8 170 2) true [.ref z, .int x1, .int x2, .int x3, .ref zo] π K := by
  have hG := A.1
  have hZ := A.2.1
  refine px_PH.intro (by decide) hZ (by simp [Value.category]) (Nat.le_of_ble_eq_true rfl) rfl ?_
  intro Γ hl hR X Y hs hbel
  subst hl
  obtain ⟨fs, hz⟩ := hz
  refine pg_w ?_
  refine pg_aload X d_L_far_0 rfl ?_
  refine pg_iconst X (0) d_L_far_2 (by decide) ?_
  refine pg_aload_n X d_L_far_3 rfl ?_
  refine pg_iload_n X d_L_far_4 rfl ?_
  refine pg_iload_n X d_L_far_5 rfl ?_
  refine pg_iload_n X d_L_far_6 rfl ?_
  refine pc_VH (ci := 3) (As := [_, _, _]) X Y d_L_far_7 (c_L_60 hG) (i_V_far hG) (v_V_far hG) (fun r h => by rw [hG.2] at h; cases h; rfl) rfl rfl (Nat.le_of_ble_eq_true rfl) (by rw [hR]; exact ⟨by decide, by decide⟩) (by decide) (by rw [hR]; decide) (by rw [hR]; decide) (px_rd_of hz) (Pv _ ?_)
  rintro r π' (⟨v, o', rfl, ho, hk⟩ | ⟨k, c, rfl, hm, hk⟩)
  · change px_G Γ G _ true _ _ 10 _ _ π'
    refine pg_i2l X d_L_far_10 ?_
    refine pg_last X d_L_far_11 ho in01 ?_
    refine pg_goto X d_L_far_12 ?_
    refine pg_iconst X (0) d_L_far_19 (by decide) ?_
    exact pg_iretH X Y d_L_far_20 rfl (by decide) (by rw [hR]; decide) (by rw [hR]; decide) hk
  · simp only [List.mem_cons, List.not_mem_nil, or_false, Prod.mk.injEq] at hm
    obtain ⟨rfl, rfl⟩ := hm
    refine ⟨15, ⟨[], ⟨0, 12, 15, 13⟩, [], IOB, rfl, by decide, rfl, by decide, hG.t (lm_2 (List.mem_of_getElem? (i := 103) rfl)), Hc.1.1, fun y hy => by cases hy⟩, fun a => ?_⟩
    refine pg_astore5 X d_L_far_15 ?_
    refine pg_iconst X (1) d_L_far_17 (by decide) ?_
    exact pg_iretH X Y d_L_far_18 rfl (by decide) (by rw [hR]; decide) (by rw [hR]; decide) hk
theorem t_L_counted (A : GA G) (Hc : CAT G) (hz : ∃ fs, π.2 z = some (.inr (3, fs))) (Pv : ∀ K', (∀ r π', KN K [(IOB, 1), (IAE, 2)] r π' → K' r π') → px_P l G y_V_counted b_V_counted 4 none (px_rt 7 105 2) true [.ref z, .int x1, .int x2] π K') :
    px_PH l G y_L_counted b_L_counted 4 (some .int) hs_L_counted (px_rt 8 170 2) true [.ref z, .int x1, .int x2] π K := by
  have hG := A.1
  have hZ := A.2.1
  refine px_PH.intro (by decide) hZ (by simp [Value.category]) (Nat.le_of_ble_eq_true rfl) rfl ?_
  intro Γ hl hR X Y hs hbel
  subst hl
  obtain ⟨fs, hz⟩ := hz
  refine pg_w ?_
  refine pg_aload_n X d_L_counted_0 rfl ?_
  refine pg_iload_n X d_L_counted_1 rfl ?_
  refine pg_iload_n X d_L_counted_2 rfl ?_
  refine pc_VH (ci := 3) (As := [_, _]) X Y d_L_counted_3 (c_L_63 hG) (i_V_counted hG) (v_V_counted hG) (fun r h => by rw [hG.2] at h; cases h; rfl) rfl rfl (Nat.le_of_ble_eq_true rfl) (by rw [hR]; exact ⟨by decide, by decide⟩) (by decide) (by rw [hR]; decide) (by rw [hR]; decide) (px_rd_of hz) (Pv _ ?_)
  rintro r π' (⟨rfl, hk⟩ | ⟨k, c, rfl, hm, hk⟩)
  · change px_G Γ G _ true _ _ 6 _ _ π'
    refine pg_goto X d_L_counted_6 ?_
    refine pg_iconst X (0) d_L_counted_15 (by decide) ?_
    exact pg_iretH X Y d_L_counted_16 rfl (by decide) (by rw [hR]; decide) (by rw [hR]; decide) hk
  · simp only [List.mem_cons, List.not_mem_nil, or_false, Prod.mk.injEq] at hm
    rcases hm with ⟨rfl, rfl⟩ | ⟨rfl, rfl⟩
    · refine ⟨9, ⟨[], ⟨0, 6, 9, 13⟩, [⟨0, 6, 12, 19⟩], IOB, rfl, by decide, rfl, by decide, hG.t (lm_2 (List.mem_of_getElem? (i := 103) rfl)), Hc.1.1, fun y hy => by cases hy⟩, fun a => ?_⟩
      refine pg_astore3 X d_L_counted_9 ?_
      refine pg_iconst X (1) d_L_counted_10 (by decide) ?_
      exact pg_iretH X Y d_L_counted_11 rfl (by decide) (by rw [hR]; decide) (by rw [hR]; decide) hk
    · refine ⟨12, ⟨[⟨0, 6, 9, 13⟩], ⟨0, 6, 12, 19⟩, [], IAE, rfl, by decide, rfl, by decide, hG.t (lm_2 (List.mem_of_getElem? (i := 196) rfl)), Hc.1.2.1, fun y hy => by rw [List.mem_singleton.mp hy]; exact ⟨IOB, by decide, hG.t (lm_2 (List.mem_of_getElem? (i := 103) rfl)), Hc.2.1⟩⟩, fun a => ?_⟩
      refine pg_astore3 X d_L_counted_12 ?_
      refine pg_iconst X (2) d_L_counted_13 (by decide) ?_
      exact pg_iretH X Y d_L_counted_14 rfl (by decide) (by rw [hR]; decide) (by rw [hR]; decide) hk
theorem t_L_fit (A : GA G) (Hc : CAT G) (hz : ∃ fs, π.2 z = some (.inr (3, fs))) (Pv : ∀ K', (∀ r π', KL zo K [(IAE, 1)] r π' → K' r π') → px_P l G y_V_fit b_V_fit 10 (some .int) (px_rt 6 138 1) true [.ref z, .int x1] π K') :
    px_PH l G y_L_fit b_L_fit 4 (some .int) hs_L_fit (px_rt 8 170 2) true [.ref z, .int x1, .ref zo] π K := by
  have hG := A.1
  have hZ := A.2.1
  refine px_PH.intro (by decide) hZ (by simp [Value.category]) (Nat.le_of_ble_eq_true rfl) rfl ?_
  intro Γ hl hR X Y hs hbel
  subst hl
  obtain ⟨fs, hz⟩ := hz
  refine pg_w ?_
  refine pg_aload_n X d_L_fit_0 rfl ?_
  refine pg_iconst X (0) d_L_fit_1 (by decide) ?_
  refine pg_aload_n X d_L_fit_2 rfl ?_
  refine pg_iload_n X d_L_fit_3 rfl ?_
  refine pc_VH (ci := 3) (As := [_]) X Y d_L_fit_4 (c_L_67 hG) (i_V_fit hG) (v_V_fit hG) (fun r h => by rw [hG.2] at h; cases h; rfl) rfl rfl (Nat.le_of_ble_eq_true rfl) (by rw [hR]; exact ⟨by decide, by decide⟩) (by decide) (by rw [hR]; decide) (by rw [hR]; decide) (px_rd_of hz) (Pv _ ?_)
  rintro r π' (⟨v, o', rfl, ho, hk⟩ | ⟨k, c, rfl, hm, hk⟩)
  · change px_G Γ G _ true _ _ 7 _ _ π'
    refine pg_i2l X d_L_fit_7 ?_
    refine pg_last X d_L_fit_8 ho in01 ?_
    refine pg_goto X d_L_fit_9 ?_
    refine pg_iconst X (0) d_L_fit_15 (by decide) ?_
    exact pg_iretH X Y d_L_fit_16 rfl (by decide) (by rw [hR]; decide) (by rw [hR]; decide) hk
  · simp only [List.mem_cons, List.not_mem_nil, or_false, Prod.mk.injEq] at hm
    obtain ⟨rfl, rfl⟩ := hm
    refine ⟨12, ⟨[], ⟨0, 9, 12, 19⟩, [], IAE, rfl, by decide, rfl, by decide, hG.t (lm_2 (List.mem_of_getElem? (i := 196) rfl)), Hc.1.2.1, fun y hy => by cases hy⟩, fun a => ?_⟩
    refine pg_astore3 X d_L_fit_12 ?_
    refine pg_iconst X (1) d_L_fit_13 (by decide) ?_
    exact pg_iretH X Y d_L_fit_14 rfl (by decide) (by rw [hR]; decide) (by rw [hR]; decide) hk
theorem t_L_interest (A : GA G) (Hc : CAT G) (hz : ∃ fs, π.2 z = some (.inr (3, fs))) (Pv : ∀ K', (∀ r π', KL zo K [(IOB, 1)] r π' → K' r π') → px_P l G y_V_interest b_V_interest 2 (some .int) (px_rt 7 105 1) false [.ref z, .int x1] π K') :
    px_PH l G y_L_interest b_L_interest 4 (some .int) hs_L_interest (px_rt 8 170 2) true [.ref z, .int x1, .ref zo] π K := by
  have hG := A.1
  have hZ := A.2.1
  refine px_PH.intro (by decide) hZ (by simp [Value.category]) (Nat.le_of_ble_eq_true rfl) rfl ?_
  intro Γ hl hR X Y hs hbel
  subst hl
  obtain ⟨fs, hz⟩ := hz
  refine pg_w ?_
  refine pg_aload_n X d_L_interest_0 rfl ?_
  refine pg_iconst X (0) d_L_interest_1 (by decide) ?_
  refine pg_aload_n X d_L_interest_2 rfl ?_
  refine pg_iload_n X d_L_interest_3 rfl ?_
  refine pc_VH (ci := 3) (As := [_]) X Y d_L_interest_4 (c_L_70 hG) (i_V_interest hG) (v_V_interest hG) (fun r h => by rw [hG.2] at h; cases h; rfl) rfl rfl (Nat.le_of_ble_eq_true rfl) (by rw [hR]; exact ⟨by decide, by decide⟩) (by decide) (by rw [hR]; decide) (by rw [hR]; decide) (px_rd_of hz) (Pv _ ?_)
  rintro r π' (⟨v, o', rfl, ho, hk⟩ | ⟨k, c, rfl, hm, hk⟩)
  · change px_G Γ G _ true _ _ 7 _ _ π'
    refine pg_i2l X d_L_interest_7 ?_
    refine pg_last X d_L_interest_8 ho in01 ?_
    refine pg_goto X d_L_interest_9 ?_
    refine pg_iconst X (0) d_L_interest_15 (by decide) ?_
    exact pg_iretH X Y d_L_interest_16 rfl (by decide) (by rw [hR]; decide) (by rw [hR]; decide) hk
  · simp only [List.mem_cons, List.not_mem_nil, or_false, Prod.mk.injEq] at hm
    obtain ⟨rfl, rfl⟩ := hm
    refine ⟨12, ⟨[], ⟨0, 9, 12, 13⟩, [], IOB, rfl, by decide, rfl, by decide, hG.t (lm_2 (List.mem_of_getElem? (i := 103) rfl)), Hc.1.1, fun y hy => by cases hy⟩, fun a => ?_⟩
    refine pg_astore3 X d_L_interest_12 ?_
    refine pg_iconst X (1) d_L_interest_13 (by decide) ?_
    exact pg_iretH X Y d_L_interest_14 rfl (by decide) (by rw [hR]; decide) (by rw [hR]; decide) hk
theorem t_L_count (A : GA G) (Hc : CAT G) (hz : ∃ fs, π.2 z = some (.inr (3, fs))) (Pv : ∀ K', (∀ r π', KL zo K [(IOB, 1)] r π' → K' r π') → px_P l G y_V_count b_V_count 2 (some .int) (px_rt 7 105 1) false [.ref z, .int x1] π K') :
    px_PH l G y_L_count b_L_count 4 (some .int) hs_L_count (px_rt 8 170 2) true [.ref z, .int x1, .ref zo] π K := by
  have hG := A.1
  have hZ := A.2.1
  refine px_PH.intro (by decide) hZ (by simp [Value.category]) (Nat.le_of_ble_eq_true rfl) rfl ?_
  intro Γ hl hR X Y hs hbel
  subst hl
  obtain ⟨fs, hz⟩ := hz
  refine pg_w ?_
  refine pg_aload_n X d_L_count_0 rfl ?_
  refine pg_iconst X (0) d_L_count_1 (by decide) ?_
  refine pg_aload_n X d_L_count_2 rfl ?_
  refine pg_iload_n X d_L_count_3 rfl ?_
  refine pc_VH (ci := 3) (As := [_]) X Y d_L_count_4 (c_L_73 hG) (i_V_count hG) (v_V_count hG) (fun r h => by rw [hG.2] at h; cases h; rfl) rfl rfl (Nat.le_of_ble_eq_true rfl) (by rw [hR]; exact ⟨by decide, by decide⟩) (by decide) (by rw [hR]; decide) (by rw [hR]; decide) (px_rd_of hz) (Pv _ ?_)
  rintro r π' (⟨v, o', rfl, ho, hk⟩ | ⟨k, c, rfl, hm, hk⟩)
  · change px_G Γ G _ true _ _ 7 _ _ π'
    refine pg_i2l X d_L_count_7 ?_
    refine pg_last X d_L_count_8 ho in01 ?_
    refine pg_goto X d_L_count_9 ?_
    refine pg_iconst X (0) d_L_count_15 (by decide) ?_
    exact pg_iretH X Y d_L_count_16 rfl (by decide) (by rw [hR]; decide) (by rw [hR]; decide) hk
  · simp only [List.mem_cons, List.not_mem_nil, or_false, Prod.mk.injEq] at hm
    obtain ⟨rfl, rfl⟩ := hm
    refine ⟨12, ⟨[], ⟨0, 9, 12, 13⟩, [], IOB, rfl, by decide, rfl, by decide, hG.t (lm_2 (List.mem_of_getElem? (i := 103) rfl)), Hc.1.1, fun y hy => by cases hy⟩, fun a => ?_⟩
    refine pg_astore3 X d_L_count_12 ?_
    refine pg_iconst X (1) d_L_count_13 (by decide) ?_
    exact pg_iretH X Y d_L_count_14 rfl (by decide) (by rw [hR]; decide) (by rw [hR]; decide) hk
end HLP
