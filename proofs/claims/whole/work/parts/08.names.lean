/-! NAMES, written by a program (gen/names.py) out of the Statement and the listing -/
abbrev R_H : String := "VisitorSteps$House"
def T_H : u_T := fun k => match k with
  | 0 => ("VisitorSteps$House", "width", "I", true)
  | 1 => ("VisitorSteps$House", "height", "I", true)
  | 2 => ("VisitorSteps$House", "seed", "I", true)
  | 3 => ("VisitorSteps$House", "wall", "[Z", true)
  | 4 => ("VisitorSteps$House", "goalCell", "[I", true)
  | 5 => ("VisitorSteps$House", "interest", "[I", true)
  | 6 => ("VisitorSteps$House", "stay", "[I", true)
  | 7 => ("VisitorSteps$House", "things", "I", false)
  | 8 => ("VisitorSteps$House", "doors", "I", false)
  | 9 => ("VisitorSteps$House", "room", "I", false)
  | 10 => ("VisitorSteps$House", "patience", "I", false)
  | 11 => ("VisitorSteps$House", "distances", "[[I", true)
  | _ => ("VisitorSteps$House", "queue", "[I", true)
def ty_H : Nat → FieldType := fun k => match k with
  | 0 => .int
  | 1 => .int
  | 2 => .int
  | 3 => (.array .boolean)
  | 4 => (.array .int)
  | 5 => (.array .int)
  | 6 => (.array .int)
  | 7 => .int
  | 8 => .int
  | 9 => .int
  | 10 => .int
  | 11 => (.array (.array .int))
  | _ => (.array .int)
abbrev R_P : String := "VisitorSteps$Visitor"
def T_P : u_T := fun k => match k with
  | 0 => ("VisitorSteps$Visitor", "second", "I", false)
  | 1 => ("VisitorSteps$Visitor", "door", "I", false)
  | 2 => ("VisitorSteps$Visitor", "group", "I", false)
  | 3 => ("VisitorSteps$Visitor", "key", "I", false)
  | 4 => ("VisitorSteps$Visitor", "state", "I", false)
  | 5 => ("VisitorSteps$Visitor", "cell", "I", false)
  | 6 => ("VisitorSteps$Visitor", "goal", "I", false)
  | 7 => ("VisitorSteps$Visitor", "looked", "I", false)
  | 8 => ("VisitorSteps$Visitor", "seenBits", "I", false)
  | _ => ("VisitorSteps$Visitor", "seenCount", "I", false)
def ty_P : Nat → FieldType := fun k => match k with
  | 0 => .int
  | 1 => .int
  | 2 => .int
  | 3 => .int
  | 4 => .int
  | 5 => .int
  | 6 => .int
  | 7 => .int
  | 8 => .int
  | _ => .int
abbrev R_K : String := "VisitorSteps$Walk"
def T_K : u_T := fun k => match k with
  | 0 => ("VisitorSteps$Walk", "house", "LVisitorSteps$House;", true)
  | 1 => ("VisitorSteps$Walk", "visitors", "[LVisitorSteps$Visitor;", true)
  | 2 => ("VisitorSteps$Walk", "crowd", "[I", true)
  | 3 => ("VisitorSteps$Walk", "stayed", "[I", true)
  | 4 => ("VisitorSteps$Walk", "cameIn", "[I", true)
  | 5 => ("VisitorSteps$Walk", "doneWith", "[I", true)
  | 6 => ("VisitorSteps$Walk", "told", "I", false)
  | 7 => ("VisitorSteps$Walk", "now", "I", false)
  | 8 => ("VisitorSteps$Walk", "inside", "I", false)
  | 9 => ("VisitorSteps$Walk", "gone", "I", false)
  | _ => ("VisitorSteps$Walk", "fleeing", "Z", false)
def ty_K : Nat → FieldType := fun k => match k with
  | 0 => (.object "VisitorSteps$House")
  | 1 => (.array (.object "VisitorSteps$Visitor"))
  | 2 => (.array .int)
  | 3 => (.array .int)
  | 4 => (.array .int)
  | 5 => (.array .int)
  | 6 => .int
  | 7 => .int
  | 8 => .int
  | 9 => .int
  | _ => .boolean
abbrev R_V : String := "VisitorSteps"
def T_V : u_T := fun k => match k with
  | 0 => ("VisitorSteps", "house", "LVisitorSteps$House;", true)
  | 1 => ("VisitorSteps", "walk", "LVisitorSteps$Walk;", true)
  | 2 => ("VisitorSteps", "trial", "LVisitorSteps$Walk;", true)
  | _ => ("VisitorSteps", "tally", "[I", true)
def ty_V : Nat → FieldType := fun k => match k with
  | 0 => (.object "VisitorSteps$House")
  | 1 => (.object "VisitorSteps$Walk")
  | 2 => (.object "VisitorSteps$Walk")
  | _ => (.array .int)
abbrev R_M : String := "VisitorStepsModel"
def T_M : u_T := fun k => match k with
  | 0 => ("VisitorStepsModel", "thrown", "I", false)
  | 1 => ("VisitorStepsModel", "width", "I", true)
  | 2 => ("VisitorStepsModel", "height", "I", true)
  | 3 => ("VisitorStepsModel", "seed", "I", true)
  | 4 => ("VisitorStepsModel", "walls", "[Z", true)
  | 5 => ("VisitorStepsModel", "things", "I", false)
  | 6 => ("VisitorStepsModel", "thingAt", "[I", true)
  | 7 => ("VisitorStepsModel", "interests", "[I", true)
  | 8 => ("VisitorStepsModel", "stays", "[I", true)
  | 9 => ("VisitorStepsModel", "counts", "[I", true)
  | 10 => ("VisitorStepsModel", "doors", "I", false)
  | 11 => ("VisitorStepsModel", "doorAt", "[I", true)
  | 12 => ("VisitorStepsModel", "room", "I", false)
  | 13 => ("VisitorStepsModel", "patience", "I", false)
  | 14 => ("VisitorStepsModel", "visitors", "I", false)
  | 15 => ("VisitorStepsModel", "seconds", "[I", true)
  | 16 => ("VisitorStepsModel", "doorOf", "[I", true)
  | 17 => ("VisitorStepsModel", "groups", "[I", true)
  | 18 => ("VisitorStepsModel", "now", "I", false)
  | 19 => ("VisitorStepsModel", "status", "[I", true)
  | 20 => ("VisitorStepsModel", "cells", "[I", true)
  | 21 => ("VisitorStepsModel", "goals", "[I", true)
  | 22 => ("VisitorStepsModel", "looked", "[I", true)
  | 23 => ("VisitorStepsModel", "seen", "[I", true)
  | 24 => ("VisitorStepsModel", "kept", "[I", true)
  | 25 => ("VisitorStepsModel", "stayed", "[I", true)
  | 26 => ("VisitorStepsModel", "keptStayed", "[I", true)
  | 27 => ("VisitorStepsModel", "came", "[I", true)
  | 28 => ("VisitorStepsModel", "went", "[I", true)
  | 29 => ("VisitorStepsModel", "keptDoors", "[I", true)
  | _ => ("VisitorStepsModel", "far", "[I", true)
def ty_M : Nat → FieldType := fun k => match k with
  | 0 => .int
  | 1 => .int
  | 2 => .int
  | 3 => .int
  | 4 => (.array .boolean)
  | 5 => .int
  | 6 => (.array .int)
  | 7 => (.array .int)
  | 8 => (.array .int)
  | 9 => (.array .int)
  | 10 => .int
  | 11 => (.array .int)
  | 12 => .int
  | 13 => .int
  | 14 => .int
  | 15 => (.array .int)
  | 16 => (.array .int)
  | 17 => (.array .int)
  | 18 => .int
  | 19 => (.array .int)
  | 20 => (.array .int)
  | 21 => (.array .int)
  | 22 => (.array .int)
  | 23 => (.array .int)
  | 24 => (.array .int)
  | 25 => (.array .int)
  | 26 => (.array .int)
  | 27 => (.array .int)
  | 28 => (.array .int)
  | 29 => (.array .int)
  | _ => (.array .int)
abbrev vcl : List vw_C := [(R_H, T_H, 13), (R_P, T_P, 10), (R_K, T_K, 11), (R_V, T_V, 4), (R_M, T_M, 31)]
/-- words that hold over every heap: not those of static fields and of String constants, which the start alone needs -/
def lw_kp (w : Cond) : Bool := match w with
  | .laysStatic _ _ _ => false
  | .stringRef _ _ _ => false
  | _ => true
def lw_ts : List Cond := lw_tbl.filter lw_kp
def gg (G : px_Cg) : Prop := G.Ts = lw_ts ∧ G.cl = vcl
theorem u_kp {C : String} {T : u_T} {N : Nat} {w : Cond} (h : w ∈ u_ws C T N) : lw_kp w = true := by
  obtain ⟨k, -, rfl⟩ := List.mem_map.mp h
  unfold u_lay
  split <;> rfl
theorem gg.c {G : px_Cg} (hG : gg G) {ci : Nat} {r : vw_C} (h : vcl[ci]? = some r) : G.cl[ci]? = some r := by rw [hG.2]; exact h
theorem gg.t {G : px_Cg} (hG : gg G) {w : Cond} (h : w ∈ lw_tbl) (hk : lw_kp w = true := by rfl) : w ∈ G.Ts := by rw [hG.1]; exact List.mem_filter.mpr ⟨h, hk⟩
theorem gg.u {G : px_Cg} (hG : gg G) {C : String} {T : u_T} {N : Nat} {w : Cond} (h0 : w ∈ u_ws C T N) (h : w ∈ lw_tbl) : w ∈ G.Ts := hG.t h (u_kp h0)
theorem lm_0 {w : Cond} (h : w ∈ k2_sels lw_privs) : w ∈ lw_tbl := List.mem_append_left _ h
theorem lm_t {w : Cond} (h : w ∈ tables_1) : w ∈ lw_tbl := List.mem_append_right _ h
theorem lm_1 {w : Cond} (h : w ∈ tables_1_1) : w ∈ lw_tbl := lm_t (List.mem_append_left _ h)
theorem lm_2 {w : Cond} (h : w ∈ tables_1_2) : w ∈ lw_tbl := lm_t (List.mem_append_right _ (List.mem_append_left _ h))
theorem lm_3 {w : Cond} (h : w ∈ tables_1_3) : w ∈ lw_tbl := lm_t (List.mem_append_right _ (List.mem_append_right _ (List.mem_append_left _ h)))
theorem lm_4 {w : Cond} (h : w ∈ tables_1_4) : w ∈ lw_tbl := lm_t (List.mem_append_right _ (List.mem_append_right _ (List.mem_append_right _ h)))
set_option maxRecDepth 100000 in
theorem tw_H : ∀ w ∈ u_ws R_H T_H 13, w ∈ lw_tbl := by decide +kernel
theorem tt_H : ∀ k, k < 13 → parseFieldDescriptor (T_H k).2.2.1 = some (ty_H k) := by decide +kernel
theorem tn_H : ∀ a, a < 13 → ∀ b, b < 13 → a ≠ b → (T_H a).2.1 ≠ (T_H b).2.1 := by decide +kernel
theorem ct_H {G : px_Cg} (hG : gg G) : px_CT G.cl 0 ty_H := ⟨R_H, T_H, 13, hG.c rfl, tt_H, tn_H⟩
theorem nf_H_width {G : px_Cg} (hG : gg G) : px_nf G.cl 0 0 true := ⟨R_H, T_H, 13, hG.c rfl, rfl⟩
theorem nf_H_height {G : px_Cg} (hG : gg G) : px_nf G.cl 0 1 true := ⟨R_H, T_H, 13, hG.c rfl, rfl⟩
theorem nf_H_seed {G : px_Cg} (hG : gg G) : px_nf G.cl 0 2 true := ⟨R_H, T_H, 13, hG.c rfl, rfl⟩
theorem nf_H_wall {G : px_Cg} (hG : gg G) : px_nf G.cl 0 3 true := ⟨R_H, T_H, 13, hG.c rfl, rfl⟩
theorem nf_H_goalCell {G : px_Cg} (hG : gg G) : px_nf G.cl 0 4 true := ⟨R_H, T_H, 13, hG.c rfl, rfl⟩
theorem nf_H_interest {G : px_Cg} (hG : gg G) : px_nf G.cl 0 5 true := ⟨R_H, T_H, 13, hG.c rfl, rfl⟩
theorem nf_H_stay {G : px_Cg} (hG : gg G) : px_nf G.cl 0 6 true := ⟨R_H, T_H, 13, hG.c rfl, rfl⟩
theorem nf_H_things {G : px_Cg} (hG : gg G) : px_nf G.cl 0 7 false := ⟨R_H, T_H, 13, hG.c rfl, rfl⟩
theorem nf_H_doors {G : px_Cg} (hG : gg G) : px_nf G.cl 0 8 false := ⟨R_H, T_H, 13, hG.c rfl, rfl⟩
theorem nf_H_room {G : px_Cg} (hG : gg G) : px_nf G.cl 0 9 false := ⟨R_H, T_H, 13, hG.c rfl, rfl⟩
theorem nf_H_patience {G : px_Cg} (hG : gg G) : px_nf G.cl 0 10 false := ⟨R_H, T_H, 13, hG.c rfl, rfl⟩
theorem nf_H_distances {G : px_Cg} (hG : gg G) : px_nf G.cl 0 11 true := ⟨R_H, T_H, 13, hG.c rfl, rfl⟩
theorem nf_H_queue {G : px_Cg} (hG : gg G) : px_nf G.cl 0 12 true := ⟨R_H, T_H, 13, hG.c rfl, rfl⟩
set_option maxRecDepth 100000 in
theorem tw_P : ∀ w ∈ u_ws R_P T_P 10, w ∈ lw_tbl := by decide +kernel
theorem tt_P : ∀ k, k < 10 → parseFieldDescriptor (T_P k).2.2.1 = some (ty_P k) := by decide +kernel
theorem tn_P : ∀ a, a < 10 → ∀ b, b < 10 → a ≠ b → (T_P a).2.1 ≠ (T_P b).2.1 := by decide +kernel
theorem ct_P {G : px_Cg} (hG : gg G) : px_CT G.cl 1 ty_P := ⟨R_P, T_P, 10, hG.c rfl, tt_P, tn_P⟩
theorem nf_P_second {G : px_Cg} (hG : gg G) : px_nf G.cl 1 0 false := ⟨R_P, T_P, 10, hG.c rfl, rfl⟩
theorem nf_P_door {G : px_Cg} (hG : gg G) : px_nf G.cl 1 1 false := ⟨R_P, T_P, 10, hG.c rfl, rfl⟩
theorem nf_P_group {G : px_Cg} (hG : gg G) : px_nf G.cl 1 2 false := ⟨R_P, T_P, 10, hG.c rfl, rfl⟩
theorem nf_P_key {G : px_Cg} (hG : gg G) : px_nf G.cl 1 3 false := ⟨R_P, T_P, 10, hG.c rfl, rfl⟩
theorem nf_P_state {G : px_Cg} (hG : gg G) : px_nf G.cl 1 4 false := ⟨R_P, T_P, 10, hG.c rfl, rfl⟩
theorem nf_P_cell {G : px_Cg} (hG : gg G) : px_nf G.cl 1 5 false := ⟨R_P, T_P, 10, hG.c rfl, rfl⟩
theorem nf_P_goal {G : px_Cg} (hG : gg G) : px_nf G.cl 1 6 false := ⟨R_P, T_P, 10, hG.c rfl, rfl⟩
theorem nf_P_looked {G : px_Cg} (hG : gg G) : px_nf G.cl 1 7 false := ⟨R_P, T_P, 10, hG.c rfl, rfl⟩
theorem nf_P_seenBits {G : px_Cg} (hG : gg G) : px_nf G.cl 1 8 false := ⟨R_P, T_P, 10, hG.c rfl, rfl⟩
theorem nf_P_seenCount {G : px_Cg} (hG : gg G) : px_nf G.cl 1 9 false := ⟨R_P, T_P, 10, hG.c rfl, rfl⟩
set_option maxRecDepth 100000 in
theorem tw_K : ∀ w ∈ u_ws R_K T_K 11, w ∈ lw_tbl := by decide +kernel
theorem tt_K : ∀ k, k < 11 → parseFieldDescriptor (T_K k).2.2.1 = some (ty_K k) := by decide +kernel
theorem tn_K : ∀ a, a < 11 → ∀ b, b < 11 → a ≠ b → (T_K a).2.1 ≠ (T_K b).2.1 := by decide +kernel
theorem ct_K {G : px_Cg} (hG : gg G) : px_CT G.cl 2 ty_K := ⟨R_K, T_K, 11, hG.c rfl, tt_K, tn_K⟩
theorem nf_K_house {G : px_Cg} (hG : gg G) : px_nf G.cl 2 0 true := ⟨R_K, T_K, 11, hG.c rfl, rfl⟩
theorem nf_K_visitors {G : px_Cg} (hG : gg G) : px_nf G.cl 2 1 true := ⟨R_K, T_K, 11, hG.c rfl, rfl⟩
theorem nf_K_crowd {G : px_Cg} (hG : gg G) : px_nf G.cl 2 2 true := ⟨R_K, T_K, 11, hG.c rfl, rfl⟩
theorem nf_K_stayed {G : px_Cg} (hG : gg G) : px_nf G.cl 2 3 true := ⟨R_K, T_K, 11, hG.c rfl, rfl⟩
theorem nf_K_cameIn {G : px_Cg} (hG : gg G) : px_nf G.cl 2 4 true := ⟨R_K, T_K, 11, hG.c rfl, rfl⟩
theorem nf_K_doneWith {G : px_Cg} (hG : gg G) : px_nf G.cl 2 5 true := ⟨R_K, T_K, 11, hG.c rfl, rfl⟩
theorem nf_K_told {G : px_Cg} (hG : gg G) : px_nf G.cl 2 6 false := ⟨R_K, T_K, 11, hG.c rfl, rfl⟩
theorem nf_K_now {G : px_Cg} (hG : gg G) : px_nf G.cl 2 7 false := ⟨R_K, T_K, 11, hG.c rfl, rfl⟩
theorem nf_K_inside {G : px_Cg} (hG : gg G) : px_nf G.cl 2 8 false := ⟨R_K, T_K, 11, hG.c rfl, rfl⟩
theorem nf_K_gone {G : px_Cg} (hG : gg G) : px_nf G.cl 2 9 false := ⟨R_K, T_K, 11, hG.c rfl, rfl⟩
theorem nf_K_fleeing {G : px_Cg} (hG : gg G) : px_nf G.cl 2 10 false := ⟨R_K, T_K, 11, hG.c rfl, rfl⟩
set_option maxRecDepth 100000 in
theorem tw_V : ∀ w ∈ u_ws R_V T_V 4, w ∈ lw_tbl := by decide +kernel
theorem tt_V : ∀ k, k < 4 → parseFieldDescriptor (T_V k).2.2.1 = some (ty_V k) := by decide +kernel
theorem tn_V : ∀ a, a < 4 → ∀ b, b < 4 → a ≠ b → (T_V a).2.1 ≠ (T_V b).2.1 := by decide +kernel
theorem ct_V {G : px_Cg} (hG : gg G) : px_CT G.cl 3 ty_V := ⟨R_V, T_V, 4, hG.c rfl, tt_V, tn_V⟩
theorem nf_V_house {G : px_Cg} (hG : gg G) : px_nf G.cl 3 0 true := ⟨R_V, T_V, 4, hG.c rfl, rfl⟩
theorem nf_V_walk {G : px_Cg} (hG : gg G) : px_nf G.cl 3 1 true := ⟨R_V, T_V, 4, hG.c rfl, rfl⟩
theorem nf_V_trial {G : px_Cg} (hG : gg G) : px_nf G.cl 3 2 true := ⟨R_V, T_V, 4, hG.c rfl, rfl⟩
theorem nf_V_tally {G : px_Cg} (hG : gg G) : px_nf G.cl 3 3 true := ⟨R_V, T_V, 4, hG.c rfl, rfl⟩
set_option maxRecDepth 100000 in
theorem tw_M : ∀ w ∈ u_ws R_M T_M 31, w ∈ lw_tbl := by decide +kernel
theorem tt_M : ∀ k, k < 31 → parseFieldDescriptor (T_M k).2.2.1 = some (ty_M k) := by decide +kernel
theorem tn_M : ∀ a, a < 31 → ∀ b, b < 31 → a ≠ b → (T_M a).2.1 ≠ (T_M b).2.1 := by decide +kernel
theorem ct_M {G : px_Cg} (hG : gg G) : px_CT G.cl 4 ty_M := ⟨R_M, T_M, 31, hG.c rfl, tt_M, tn_M⟩
theorem nf_M_thrown {G : px_Cg} (hG : gg G) : px_nf G.cl 4 0 false := ⟨R_M, T_M, 31, hG.c rfl, rfl⟩
theorem nf_M_width {G : px_Cg} (hG : gg G) : px_nf G.cl 4 1 true := ⟨R_M, T_M, 31, hG.c rfl, rfl⟩
theorem nf_M_height {G : px_Cg} (hG : gg G) : px_nf G.cl 4 2 true := ⟨R_M, T_M, 31, hG.c rfl, rfl⟩
theorem nf_M_seed {G : px_Cg} (hG : gg G) : px_nf G.cl 4 3 true := ⟨R_M, T_M, 31, hG.c rfl, rfl⟩
theorem nf_M_walls {G : px_Cg} (hG : gg G) : px_nf G.cl 4 4 true := ⟨R_M, T_M, 31, hG.c rfl, rfl⟩
theorem nf_M_things {G : px_Cg} (hG : gg G) : px_nf G.cl 4 5 false := ⟨R_M, T_M, 31, hG.c rfl, rfl⟩
theorem nf_M_thingAt {G : px_Cg} (hG : gg G) : px_nf G.cl 4 6 true := ⟨R_M, T_M, 31, hG.c rfl, rfl⟩
theorem nf_M_interests {G : px_Cg} (hG : gg G) : px_nf G.cl 4 7 true := ⟨R_M, T_M, 31, hG.c rfl, rfl⟩
theorem nf_M_stays {G : px_Cg} (hG : gg G) : px_nf G.cl 4 8 true := ⟨R_M, T_M, 31, hG.c rfl, rfl⟩
theorem nf_M_counts {G : px_Cg} (hG : gg G) : px_nf G.cl 4 9 true := ⟨R_M, T_M, 31, hG.c rfl, rfl⟩
theorem nf_M_doors {G : px_Cg} (hG : gg G) : px_nf G.cl 4 10 false := ⟨R_M, T_M, 31, hG.c rfl, rfl⟩
theorem nf_M_doorAt {G : px_Cg} (hG : gg G) : px_nf G.cl 4 11 true := ⟨R_M, T_M, 31, hG.c rfl, rfl⟩
theorem nf_M_room {G : px_Cg} (hG : gg G) : px_nf G.cl 4 12 false := ⟨R_M, T_M, 31, hG.c rfl, rfl⟩
theorem nf_M_patience {G : px_Cg} (hG : gg G) : px_nf G.cl 4 13 false := ⟨R_M, T_M, 31, hG.c rfl, rfl⟩
theorem nf_M_visitors {G : px_Cg} (hG : gg G) : px_nf G.cl 4 14 false := ⟨R_M, T_M, 31, hG.c rfl, rfl⟩
theorem nf_M_seconds {G : px_Cg} (hG : gg G) : px_nf G.cl 4 15 true := ⟨R_M, T_M, 31, hG.c rfl, rfl⟩
theorem nf_M_doorOf {G : px_Cg} (hG : gg G) : px_nf G.cl 4 16 true := ⟨R_M, T_M, 31, hG.c rfl, rfl⟩
theorem nf_M_groups {G : px_Cg} (hG : gg G) : px_nf G.cl 4 17 true := ⟨R_M, T_M, 31, hG.c rfl, rfl⟩
theorem nf_M_now {G : px_Cg} (hG : gg G) : px_nf G.cl 4 18 false := ⟨R_M, T_M, 31, hG.c rfl, rfl⟩
theorem nf_M_status {G : px_Cg} (hG : gg G) : px_nf G.cl 4 19 true := ⟨R_M, T_M, 31, hG.c rfl, rfl⟩
theorem nf_M_cells {G : px_Cg} (hG : gg G) : px_nf G.cl 4 20 true := ⟨R_M, T_M, 31, hG.c rfl, rfl⟩
theorem nf_M_goals {G : px_Cg} (hG : gg G) : px_nf G.cl 4 21 true := ⟨R_M, T_M, 31, hG.c rfl, rfl⟩
theorem nf_M_looked {G : px_Cg} (hG : gg G) : px_nf G.cl 4 22 true := ⟨R_M, T_M, 31, hG.c rfl, rfl⟩
theorem nf_M_seen {G : px_Cg} (hG : gg G) : px_nf G.cl 4 23 true := ⟨R_M, T_M, 31, hG.c rfl, rfl⟩
theorem nf_M_kept {G : px_Cg} (hG : gg G) : px_nf G.cl 4 24 true := ⟨R_M, T_M, 31, hG.c rfl, rfl⟩
theorem nf_M_stayed {G : px_Cg} (hG : gg G) : px_nf G.cl 4 25 true := ⟨R_M, T_M, 31, hG.c rfl, rfl⟩
theorem nf_M_keptStayed {G : px_Cg} (hG : gg G) : px_nf G.cl 4 26 true := ⟨R_M, T_M, 31, hG.c rfl, rfl⟩
theorem nf_M_came {G : px_Cg} (hG : gg G) : px_nf G.cl 4 27 true := ⟨R_M, T_M, 31, hG.c rfl, rfl⟩
theorem nf_M_went {G : px_Cg} (hG : gg G) : px_nf G.cl 4 28 true := ⟨R_M, T_M, 31, hG.c rfl, rfl⟩
theorem nf_M_keptDoors {G : px_Cg} (hG : gg G) : px_nf G.cl 4 29 true := ⟨R_M, T_M, 31, hG.c rfl, rfl⟩
theorem nf_M_far {G : px_Cg} (hG : gg G) : px_nf G.cl 4 30 true := ⟨R_M, T_M, 31, hG.c rfl, rfl⟩
abbrev b_V_init : ByteArray := prog_1_method_1_code
abbrev y_V_init : MethodName := ⟨"VisitorSteps", "<init>", "(III)V"⟩
abbrev b_V_about : ByteArray := prog_1_method_10_code
abbrev y_V_about : MethodName := ⟨"VisitorSteps", "about", "(II)I"⟩
abbrev b_V_arrives : ByteArray := prog_1_method_7_code
abbrev y_V_arrives : MethodName := ⟨"VisitorSteps", "arrives", "(III)I"⟩
abbrev b_V_at : ByteArray := prog_1_method_9_code
abbrev y_V_at : MethodName := ⟨"VisitorSteps", "at", "(II)I"⟩
abbrev b_V_between : ByteArray := prog_1_method_22_code
abbrev y_V_between : MethodName := ⟨"VisitorSteps", "between", "(III)I"⟩
abbrev b_V_count : ByteArray := prog_1_method_21_code
abbrev y_V_count : MethodName := ⟨"VisitorSteps", "count", "(I)I"⟩
abbrev b_V_counted : ByteArray := prog_1_method_17_code
abbrev y_V_counted : MethodName := ⟨"VisitorSteps", "counted", "(II)V"⟩
abbrev b_V_crowd : ByteArray := prog_1_method_11_code
abbrev y_V_crowd : MethodName := ⟨"VisitorSteps", "crowd", "(II)I"⟩
abbrev b_V_door : ByteArray := prog_1_method_4_code
abbrev y_V_door : MethodName := ⟨"VisitorSteps", "door", "(II)I"⟩
abbrev b_V_escape : ByteArray := prog_1_method_16_code
abbrev y_V_escape : MethodName := ⟨"VisitorSteps", "escape", "()I"⟩
abbrev b_V_existingCell : ByteArray := prog_1_method_23_code
abbrev y_V_existingCell : MethodName := ⟨"VisitorSteps", "existingCell", "(II)I"⟩
abbrev b_V_existingDoor : ByteArray := prog_1_method_25_code
abbrev y_V_existingDoor : MethodName := ⟨"VisitorSteps", "existingDoor", "(I)I"⟩
abbrev b_V_existingThing : ByteArray := prog_1_method_24_code
abbrev y_V_existingThing : MethodName := ⟨"VisitorSteps", "existingThing", "(I)I"⟩
abbrev b_V_existingVisitor : ByteArray := prog_1_method_26_code
abbrev y_V_existingVisitor : MethodName := ⟨"VisitorSteps", "existingVisitor", "(I)LVisitorSteps$Visitor;"⟩
abbrev b_V_far : ByteArray := prog_1_method_15_code
abbrev y_V_far : MethodName := ⟨"VisitorSteps", "far", "(III)I"⟩
abbrev b_V_fit : ByteArray := prog_1_method_19_code
abbrev y_V_fit : MethodName := ⟨"VisitorSteps", "fit", "(I)I"⟩
abbrev b_V_interest : ByteArray := prog_1_method_20_code
abbrev y_V_interest : MethodName := ⟨"VisitorSteps", "interest", "(I)I"⟩
abbrev b_V_patience : ByteArray := prog_1_method_6_code
abbrev y_V_patience : MethodName := ⟨"VisitorSteps", "patience", "(I)I"⟩
abbrev b_V_room : ByteArray := prog_1_method_5_code
abbrev y_V_room : MethodName := ⟨"VisitorSteps", "room", "(I)I"⟩
abbrev b_V_run : ByteArray := prog_1_method_8_code
abbrev y_V_run : MethodName := ⟨"VisitorSteps", "run", "(I)I"⟩
abbrev b_V_seen : ByteArray := prog_1_method_14_code
abbrev y_V_seen : MethodName := ⟨"VisitorSteps", "seen", "(I)I"⟩
abbrev b_V_squaresAnew : ByteArray := prog_1_method_27_code
abbrev y_V_squaresAnew : MethodName := ⟨"VisitorSteps", "squaresAnew", "()I"⟩
abbrev b_V_stayed : ByteArray := prog_1_method_12_code
abbrev y_V_stayed : MethodName := ⟨"VisitorSteps", "stayed", "(II)I"⟩
abbrev b_V_sum : ByteArray := prog_1_method_18_code
abbrev y_V_sum : MethodName := ⟨"VisitorSteps", "sum", "()I"⟩
abbrev b_V_thing : ByteArray := prog_1_method_3_code
abbrev y_V_thing : MethodName := ⟨"VisitorSteps", "thing", "(IIII)I"⟩
abbrev b_V_through : ByteArray := prog_1_method_13_code
abbrev y_V_through : MethodName := ⟨"VisitorSteps", "through", "(IZ)I"⟩
abbrev b_V_wall : ByteArray := prog_1_method_2_code
abbrev y_V_wall : MethodName := ⟨"VisitorSteps", "wall", "(IIZ)Z"⟩
abbrev b_H_init : ByteArray := prog_2_method_1_code
abbrev y_H_init : MethodName := ⟨"VisitorSteps$House", "<init>", "(III)V"⟩
abbrev b_H_addDoor : ByteArray := prog_2_method_7_code
abbrev y_H_addDoor : MethodName := ⟨"VisitorSteps$House", "addDoor", "(I)I"⟩
abbrev b_H_addThing : ByteArray := prog_2_method_6_code
abbrev y_H_addThing : MethodName := ⟨"VisitorSteps$House", "addThing", "(III)I"⟩
abbrev b_H_build : ByteArray := prog_2_method_5_code
abbrev y_H_build : MethodName := ⟨"VisitorSteps$House", "build", "(IZ)V"⟩
abbrev b_H_cellOneNearer : ByteArray := prog_2_method_10_code
abbrev y_H_cellOneNearer : MethodName := ⟨"VisitorSteps$House", "cellOneNearer", "(II)I"⟩
abbrev b_H_distanceTo : ByteArray := prog_2_method_4_code
abbrev y_H_distanceTo : MethodName := ⟨"VisitorSteps$House", "distanceTo", "(II)I"⟩
abbrev b_H_hasGoalIn : ByteArray := prog_2_method_3_code
abbrev y_H_hasGoalIn : MethodName := ⟨"VisitorSteps$House", "hasGoalIn", "(I)Z"⟩
abbrev b_H_isGoal : ByteArray := prog_2_method_2_code
abbrev y_H_isGoal : MethodName := ⟨"VisitorSteps$House", "isGoal", "(I)Z"⟩
abbrev b_H_measure : ByteArray := prog_2_method_8_code
abbrev y_H_measure : MethodName := ⟨"VisitorSteps$House", "measure", "(I)V"⟩
abbrev b_H_nearestDoor : ByteArray := prog_2_method_11_code
abbrev y_H_nearestDoor : MethodName := ⟨"VisitorSteps$House", "nearestDoor", "(I)I"⟩
abbrev b_H_neighbour : ByteArray := prog_2_method_9_code
abbrev y_H_neighbour : MethodName := ⟨"VisitorSteps$House", "neighbour", "(II)I"⟩
abbrev b_P_init : ByteArray := prog_3_method_1_code
abbrev y_P_init : MethodName := ⟨"VisitorSteps$Visitor", "<init>", "()V"⟩
abbrev b_P_copyFrom : ByteArray := prog_3_method_2_code
abbrev y_P_copyFrom : MethodName := ⟨"VisitorSteps$Visitor", "copyFrom", "(LVisitorSteps$Visitor;)V"⟩
abbrev b_P_goBackToStart : ByteArray := prog_3_method_3_code
abbrev y_P_goBackToStart : MethodName := ⟨"VisitorSteps$Visitor", "goBackToStart", "()V"⟩
abbrev b_P_hasSeen : ByteArray := prog_3_method_5_code
abbrev y_P_hasSeen : MethodName := ⟨"VisitorSteps$Visitor", "hasSeen", "(I)Z"⟩
abbrev b_P_turnTo : ByteArray := prog_3_method_4_code
abbrev y_P_turnTo : MethodName := ⟨"VisitorSteps$Visitor", "turnTo", "(I)V"⟩
abbrev b_K_init : ByteArray := prog_4_method_1_code
abbrev y_K_init : MethodName := ⟨"VisitorSteps$Walk", "<init>", "(LVisitorSteps$House;)V"⟩
abbrev b_K_choose : ByteArray := prog_4_method_16_code
abbrev y_K_choose : MethodName := ⟨"VisitorSteps$Walk", "choose", "(LVisitorSteps$Visitor;)I"⟩
abbrev b_K_chooseThing : ByteArray := prog_4_method_17_code
abbrev y_K_chooseThing : MethodName := ⟨"VisitorSteps$Walk", "chooseThing", "(LVisitorSteps$Visitor;)I"⟩
abbrev b_K_comeIn : ByteArray := prog_4_method_10_code
abbrev y_K_comeIn : MethodName := ⟨"VisitorSteps$Walk", "comeIn", "(LVisitorSteps$Visitor;)V"⟩
abbrev b_K_copyFrom : ByteArray := prog_4_method_4_code
abbrev y_K_copyFrom : MethodName := ⟨"VisitorSteps$Walk", "copyFrom", "(LVisitorSteps$Walk;)V"⟩
abbrev b_K_dueBefore : ByteArray := prog_4_method_7_code
abbrev y_K_dueBefore : MethodName := ⟨"VisitorSteps$Walk", "dueBefore", "(I)I"⟩
abbrev b_K_goBackToStart : ByteArray := prog_4_method_5_code
abbrev y_K_goBackToStart : MethodName := ⟨"VisitorSteps$Walk", "goBackToStart", "()V"⟩
abbrev b_K_goOn : ByteArray := prog_4_method_11_code
abbrev y_K_goOn : MethodName := ⟨"VisitorSteps$Walk", "goOn", "(LVisitorSteps$Visitor;)V"⟩
abbrev b_K_goOut : ByteArray := prog_4_method_13_code
abbrev y_K_goOut : MethodName := ⟨"VisitorSteps$Walk", "goOut", "(LVisitorSteps$Visitor;)V"⟩
abbrev b_K_groupIsDoneWith : ByteArray := prog_4_method_15_code
abbrev y_K_groupIsDoneWith : MethodName := ⟨"VisitorSteps$Walk", "groupIsDoneWith", "(LVisitorSteps$Visitor;)Z"⟩
abbrev b_K_hasRoom : ByteArray := prog_4_method_9_code
abbrev y_K_hasRoom : MethodName := ⟨"VisitorSteps$Walk", "hasRoom", "(I)Z"⟩
abbrev b_K_keyOf : ByteArray := prog_4_method_3_code
abbrev y_K_keyOf : MethodName := ⟨"VisitorSteps$Walk", "keyOf", "(I)I"⟩
abbrev b_K_look : ByteArray := prog_4_method_14_code
abbrev y_K_look : MethodName := ⟨"VisitorSteps$Walk", "look", "(LVisitorSteps$Visitor;)V"⟩
abbrev b_K_luck : ByteArray := prog_4_method_18_code
abbrev y_K_luck : MethodName := ⟨"VisitorSteps$Walk", "luck", "(LVisitorSteps$Visitor;)I"⟩
abbrev b_K_passSecond : ByteArray := prog_4_method_8_code
abbrev y_K_passSecond : MethodName := ⟨"VisitorSteps$Walk", "passSecond", "()V"⟩
abbrev b_K_startFleeing : ByteArray := prog_4_method_6_code
abbrev y_K_startFleeing : MethodName := ⟨"VisitorSteps$Walk", "startFleeing", "()V"⟩
abbrev b_K_step : ByteArray := prog_4_method_12_code
abbrev y_K_step : MethodName := ⟨"VisitorSteps$Walk", "step", "(LVisitorSteps$Visitor;)V"⟩
abbrev b_K_tell : ByteArray := prog_4_method_2_code
abbrev y_K_tell : MethodName := ⟨"VisitorSteps$Walk", "tell", "(III)I"⟩
abbrev b_L_about : ByteArray := method_11_code
abbrev y_L_about : MethodName := ⟨"VisitorStepsLaw", "about", "(LVisitorSteps;II[J)I"⟩
abbrev b_L_arrives : ByteArray := method_8_code
abbrev y_L_arrives : MethodName := ⟨"VisitorStepsLaw", "arrives", "(LVisitorSteps;III[J)I"⟩
abbrev b_L_at : ByteArray := method_10_code
abbrev y_L_at : MethodName := ⟨"VisitorStepsLaw", "at", "(LVisitorSteps;II[J)I"⟩
abbrev b_L_cell : ByteArray := method_2_code
abbrev y_L_cell : MethodName := ⟨"VisitorStepsLaw", "cell", "([II)I"⟩
abbrev b_L_count : ByteArray := method_20_code
abbrev y_L_count : MethodName := ⟨"VisitorStepsLaw", "count", "(LVisitorSteps;I[J)I"⟩
abbrev b_L_counted : ByteArray := method_17_code
abbrev y_L_counted : MethodName := ⟨"VisitorStepsLaw", "counted", "(LVisitorSteps;II)I"⟩
abbrev b_L_crowd : ByteArray := method_12_code
abbrev y_L_crowd : MethodName := ⟨"VisitorStepsLaw", "crowd", "(LVisitorSteps;II[J)I"⟩
abbrev b_L_door : ByteArray := method_5_code
abbrev y_L_door : MethodName := ⟨"VisitorStepsLaw", "door", "(LVisitorSteps;II[J)I"⟩
abbrev b_L_far : ByteArray := method_16_code
abbrev y_L_far : MethodName := ⟨"VisitorStepsLaw", "far", "(LVisitorSteps;III[J)I"⟩
abbrev b_L_fit : ByteArray := method_18_code
abbrev y_L_fit : MethodName := ⟨"VisitorStepsLaw", "fit", "(LVisitorSteps;I[J)I"⟩
abbrev b_L_interest : ByteArray := method_19_code
abbrev y_L_interest : MethodName := ⟨"VisitorStepsLaw", "interest", "(LVisitorSteps;I[J)I"⟩
abbrev b_L_patience : ByteArray := method_7_code
abbrev y_L_patience : MethodName := ⟨"VisitorStepsLaw", "patience", "(LVisitorSteps;I[J)I"⟩
abbrev b_L_room : ByteArray := method_6_code
abbrev y_L_room : MethodName := ⟨"VisitorStepsLaw", "room", "(LVisitorSteps;I[J)I"⟩
abbrev b_L_run : ByteArray := method_9_code
abbrev y_L_run : MethodName := ⟨"VisitorStepsLaw", "run", "(LVisitorSteps;I[J)I"⟩
abbrev b_L_seen : ByteArray := method_15_code
abbrev y_L_seen : MethodName := ⟨"VisitorStepsLaw", "seen", "(LVisitorSteps;I[J)I"⟩
abbrev b_L_stayed : ByteArray := method_13_code
abbrev y_L_stayed : MethodName := ⟨"VisitorStepsLaw", "stayed", "(LVisitorSteps;II[J)I"⟩
abbrev b_L_thing : ByteArray := method_4_code
abbrev y_L_thing : MethodName := ⟨"VisitorStepsLaw", "thing", "(LVisitorSteps;IIII[J)I"⟩
abbrev b_L_through : ByteArray := method_14_code
abbrev y_L_through : MethodName := ⟨"VisitorStepsLaw", "through", "(LVisitorSteps;IZ[J)I"⟩
abbrev b_L_wall : ByteArray := method_3_code
abbrev y_L_wall : MethodName := ⟨"VisitorStepsLaw", "wall", "(LVisitorSteps;IIZ[J)I"⟩
abbrev b_M_init : ByteArray := prog_6_method_1_code
abbrev y_M_init : MethodName := ⟨"VisitorStepsModel", "<init>", "(III)V"⟩
abbrev b_M_about : ByteArray := prog_6_method_31_code
abbrev y_M_about : MethodName := ⟨"VisitorStepsModel", "about", "(II)I"⟩
abbrev b_M_act : ByteArray := prog_6_method_25_code
abbrev y_M_act : MethodName := ⟨"VisitorStepsModel", "act", "(IZ)V"⟩
abbrev b_M_anew : ByteArray := prog_6_method_42_code
abbrev y_M_anew : MethodName := ⟨"VisitorStepsModel", "anew", "()I"⟩
abbrev b_M_arrives : ByteArray := prog_6_method_12_code
abbrev y_M_arrives : MethodName := ⟨"VisitorStepsModel", "arrives", "(III)I"⟩
abbrev b_M_at : ByteArray := prog_6_method_30_code
abbrev y_M_at : MethodName := ⟨"VisitorStepsModel", "at", "(II)I"⟩
abbrev b_M_chosen : ByteArray := prog_6_method_21_code
abbrev y_M_chosen : MethodName := ⟨"VisitorStepsModel", "chosen", "(I)I"⟩
abbrev b_M_count : ByteArray := prog_6_method_47_code
abbrev y_M_count : MethodName := ⟨"VisitorStepsModel", "count", "(I)I"⟩
abbrev b_M_counted : ByteArray := prog_6_method_41_code
abbrev y_M_counted : MethodName := ⟨"VisitorStepsModel", "counted", "(II)V"⟩
abbrev b_M_crowd : ByteArray := prog_6_method_32_code
abbrev y_M_crowd : MethodName := ⟨"VisitorStepsModel", "crowd", "(II)I"⟩
abbrev b_M_crowdOf : ByteArray := prog_6_method_6_code
abbrev y_M_crowdOf : MethodName := ⟨"VisitorStepsModel", "crowdOf", "(I)I"⟩
abbrev b_M_distance : ByteArray := prog_6_method_17_code
abbrev y_M_distance : MethodName := ⟨"VisitorStepsModel", "distance", "(II)I"⟩
abbrev b_M_door : ByteArray := prog_6_method_9_code
abbrev y_M_door : MethodName := ⟨"VisitorStepsModel", "door", "(II)I"⟩
abbrev b_M_escape : ByteArray := prog_6_method_40_code
abbrev y_M_escape : MethodName := ⟨"VisitorStepsModel", "escape", "()I"⟩
abbrev b_M_far : ByteArray := prog_6_method_37_code
abbrev y_M_far : MethodName := ⟨"VisitorStepsModel", "far", "(III)I"⟩
abbrev b_M_fit : ByteArray := prog_6_method_45_code
abbrev y_M_fit : MethodName := ⟨"VisitorStepsModel", "fit", "(I)I"⟩
abbrev b_M_goes : ByteArray := prog_6_method_3_code
abbrev y_M_goes : MethodName := ⟨"VisitorStepsModel", "goes", "(ZZZ)Z"⟩
abbrev b_M_inside : ByteArray := prog_6_method_27_code
abbrev y_M_inside : MethodName := ⟨"VisitorStepsModel", "inside", "()I"⟩
abbrev b_M_interest : ByteArray := prog_6_method_46_code
abbrev y_M_interest : MethodName := ⟨"VisitorStepsModel", "interest", "(I)I"⟩
abbrev b_M_isCell : ByteArray := prog_6_method_5_code
abbrev y_M_isCell : MethodName := ⟨"VisitorStepsModel", "isCell", "(II)Z"⟩
abbrev b_M_isReady : ByteArray := prog_6_method_23_code
abbrev y_M_isReady : MethodName := ⟨"VisitorStepsModel", "isReady", "(II)Z"⟩
abbrev b_M_isVisitor : ByteArray := prog_6_method_29_code
abbrev y_M_isVisitor : MethodName := ⟨"VisitorStepsModel", "isVisitor", "(I)Z"⟩
abbrev b_M_keep : ByteArray := prog_6_method_38_code
abbrev y_M_keep : MethodName := ⟨"VisitorStepsModel", "keep", "()V"⟩
abbrev b_M_key : ByteArray := prog_6_method_19_code
abbrev y_M_key : MethodName := ⟨"VisitorStepsModel", "key", "(I)I"⟩
abbrev b_M_look : ByteArray := prog_6_method_24_code
abbrev y_M_look : MethodName := ⟨"VisitorStepsModel", "look", "(I)V"⟩
abbrev b_M_many : ByteArray := prog_6_method_18_code
abbrev y_M_many : MethodName := ⟨"VisitorStepsModel", "many", "(I)I"⟩
abbrev b_M_measure : ByteArray := prog_6_method_14_code
abbrev y_M_measure : MethodName := ⟨"VisitorStepsModel", "measure", "(II)V"⟩
abbrev b_M_measureAll : ByteArray := prog_6_method_15_code
abbrev y_M_measureAll : MethodName := ⟨"VisitorStepsModel", "measureAll", "()V"⟩
abbrev b_M_nearest : ByteArray := prog_6_method_20_code
abbrev y_M_nearest : MethodName := ⟨"VisitorStepsModel", "nearest", "(I)I"⟩
abbrev b_M_next : ByteArray := prog_6_method_22_code
abbrev y_M_next : MethodName := ⟨"VisitorStepsModel", "next", "(II)I"⟩
abbrev b_M_pass : ByteArray := prog_6_method_26_code
abbrev y_M_pass : MethodName := ⟨"VisitorStepsModel", "pass", "(IZ)V"⟩
abbrev b_M_patience : ByteArray := prog_6_method_11_code
abbrev y_M_patience : MethodName := ⟨"VisitorStepsModel", "patience", "(I)I"⟩
abbrev b_M_putBack : ByteArray := prog_6_method_39_code
abbrev y_M_putBack : MethodName := ⟨"VisitorStepsModel", "putBack", "()V"⟩
abbrev b_M_room : ByteArray := prog_6_method_10_code
abbrev y_M_room : MethodName := ⟨"VisitorStepsModel", "room", "(I)I"⟩
abbrev b_M_rowOf : ByteArray := prog_6_method_16_code
abbrev y_M_rowOf : MethodName := ⟨"VisitorStepsModel", "rowOf", "(I)I"⟩
abbrev b_M_run : ByteArray := prog_6_method_28_code
abbrev y_M_run : MethodName := ⟨"VisitorStepsModel", "run", "(I)I"⟩
abbrev b_M_seen : ByteArray := prog_6_method_36_code
abbrev y_M_seen : MethodName := ⟨"VisitorStepsModel", "seen", "(I)I"⟩
abbrev b_M_seenOf : ByteArray := prog_6_method_35_code
abbrev y_M_seenOf : MethodName := ⟨"VisitorStepsModel", "seenOf", "(I)I"⟩
abbrev b_M_stayed : ByteArray := prog_6_method_33_code
abbrev y_M_stayed : MethodName := ⟨"VisitorStepsModel", "stayed", "(II)I"⟩
abbrev b_M_stepAt : ByteArray := prog_6_method_13_code
abbrev y_M_stepAt : MethodName := ⟨"VisitorStepsModel", "stepAt", "(II)I"⟩
abbrev b_M_sum : ByteArray := prog_6_method_43_code
abbrev y_M_sum : MethodName := ⟨"VisitorStepsModel", "sum", "()I"⟩
abbrev b_M_thing : ByteArray := prog_6_method_8_code
abbrev y_M_thing : MethodName := ⟨"VisitorStepsModel", "thing", "(IIII)I"⟩
abbrev b_M_through : ByteArray := prog_6_method_34_code
abbrev y_M_through : MethodName := ⟨"VisitorStepsModel", "through", "(IZ)I"⟩
abbrev b_M_thrown : ByteArray := prog_6_method_2_code
abbrev y_M_thrown : MethodName := ⟨"VisitorStepsModel", "thrown", "()I"⟩
abbrev b_M_tries : ByteArray := prog_6_method_44_code
abbrev y_M_tries : MethodName := ⟨"VisitorStepsModel", "tries", "(II)Z"⟩
abbrev b_M_wall : ByteArray := prog_6_method_7_code
abbrev y_M_wall : MethodName := ⟨"VisitorStepsModel", "wall", "(IIZ)Z"⟩
abbrev b_M_within : ByteArray := prog_6_method_4_code
abbrev y_M_within : MethodName := ⟨"VisitorStepsModel", "within", "(III)Z"⟩
abbrev b_X_max : ByteArray := prog_11_method_65_code
abbrev y_X_max : MethodName := ⟨"java/lang/Math", "max", "(II)I"⟩
abbrev b_X_min : ByteArray := prog_11_method_69_code
abbrev y_X_min : MethodName := ⟨"java/lang/Math", "min", "(II)I"⟩
abbrev b_A_fill : ByteArray := prog_16_method_103_code
abbrev y_A_fill : MethodName := ⟨"java/util/Arrays", "fill", "([II)V"⟩
theorem c_V_11 {G : px_Cg} (hG : gg G) : px_CW G.Ts "VisitorSteps" 11 y_V_between b_V_between 3 (some FieldType.int) 3 := ⟨Or.inl (hG.t (lm_1 (List.mem_of_getElem? (i := 25) rfl))), hG.t (lm_1 (List.mem_of_getElem? (i := 27) rfl)), hG.t (lm_1 (List.mem_of_getElem? (i := 1) rfl)), ⟨by decide, by decide⟩, by decide +kernel⟩
theorem s_V_between {G : px_Cg} (hG : gg G) : Cond.static y_V_between ∈ G.Ts := hG.t (lm_1 (List.mem_of_getElem? (i := 26) rfl))
theorem c_V_16 {G : px_Cg} (hG : gg G) : px_CW G.Ts "VisitorSteps" 16 y_H_init b_H_init 6 none 3 := ⟨Or.inl (hG.t (lm_1 (List.mem_of_getElem? (i := 35) rfl))), hG.t (lm_1 (List.mem_of_getElem? (i := 37) rfl)), hG.t (lm_1 (List.mem_of_getElem? (i := 2) rfl)), ⟨by decide, by decide⟩, by decide +kernel⟩
theorem i_H_init {G : px_Cg} (hG : gg G) : Cond.instanceMethod y_H_init ∈ G.Ts := hG.t (lm_1 (List.mem_of_getElem? (i := 36) rfl))
theorem f_V_19 {G : px_Cg} (hG : gg G) : px_FW G.Ts G.cl "VisitorSteps" 19 3 0 := ⟨R_V, T_V, 4, hG.c rfl, by decide, rfl, fun w h => hG.u h (tw_V w h), Or.inl (hG.t (lm_1 (List.mem_of_getElem? (i := 204) rfl)))⟩
theorem c_V_25 {G : px_Cg} (hG : gg G) : px_CW G.Ts "VisitorSteps" 25 y_K_init b_K_init 3 none 1 := ⟨Or.inl (hG.t (lm_1 (List.mem_of_getElem? (i := 104) rfl))), hG.t (lm_1 (List.mem_of_getElem? (i := 106) rfl)), hG.t (lm_1 (List.mem_of_getElem? (i := 5) rfl)), ⟨by decide, by decide⟩, by decide +kernel⟩
theorem i_K_init {G : px_Cg} (hG : gg G) : Cond.instanceMethod y_K_init ∈ G.Ts := hG.t (lm_1 (List.mem_of_getElem? (i := 105) rfl))
theorem f_V_28 {G : px_Cg} (hG : gg G) : px_FW G.Ts G.cl "VisitorSteps" 28 3 1 := ⟨R_V, T_V, 4, hG.c rfl, by decide, rfl, fun w h => hG.u h (tw_V w h), Or.inl (hG.t (lm_1 (List.mem_of_getElem? (i := 205) rfl)))⟩
theorem f_V_32 {G : px_Cg} (hG : gg G) : px_FW G.Ts G.cl "VisitorSteps" 32 3 2 := ⟨R_V, T_V, 4, hG.c rfl, by decide, rfl, fun w h => hG.u h (tw_V w h), Or.inl (hG.t (lm_1 (List.mem_of_getElem? (i := 206) rfl)))⟩
theorem f_V_35 {G : px_Cg} (hG : gg G) : px_FW G.Ts G.cl "VisitorSteps" 35 3 3 := ⟨R_V, T_V, 4, hG.c rfl, by decide, rfl, fun w h => hG.u h (tw_V w h), Or.inl (hG.t (lm_1 (List.mem_of_getElem? (i := 207) rfl)))⟩
theorem c_V_39 {G : px_Cg} (hG : gg G) : px_CW G.Ts "VisitorSteps" 39 y_A_fill b_A_fill 4 none 2 := ⟨Or.inl (hG.t (lm_1 (List.mem_of_getElem? (i := 203) rfl))), hG.t (lm_1 (List.mem_of_getElem? (i := 43) rfl)), hG.t (lm_1 (List.mem_of_getElem? (i := 4) rfl)), ⟨by decide, by decide⟩, by decide +kernel⟩
theorem s_A_fill {G : px_Cg} (hG : gg G) : Cond.static y_A_fill ∈ G.Ts := hG.t (lm_1 (List.mem_of_getElem? (i := 42) rfl))
theorem c_V_45 {G : px_Cg} (hG : gg G) : px_CW G.Ts "VisitorSteps" 45 y_V_existingCell b_V_existingCell 3 (some FieldType.int) 2 := ⟨Or.inl (hG.t (lm_2 (List.mem_of_getElem? (i := 108) rfl))), hG.t (lm_2 (List.mem_of_getElem? (i := 111) rfl)), hG.t (lm_1 (List.mem_of_getElem? (i := 1) rfl)), ⟨by decide, by decide⟩, by decide +kernel⟩
theorem i_V_existingCell {G : px_Cg} (hG : gg G) : Cond.instanceMethod y_V_existingCell ∈ G.Ts := hG.t (lm_2 (List.mem_of_getElem? (i := 110) rfl))
theorem v_V_existingCell {G : px_Cg} (hG : gg G) : Cond.selects y_V_existingCell.cls y_V_existingCell y_V_existingCell ∈ G.Ts := hG.t (lm_0 (List.mem_of_getElem? (i := 12) rfl))
theorem f_V_49 {G : px_Cg} (hG : gg G) : px_FW G.Ts G.cl "VisitorSteps" 49 0 3 := ⟨R_H, T_H, 13, hG.c rfl, by decide, rfl, fun w h => hG.u h (tw_H w h), Or.inl (hG.t (lm_1 (List.mem_of_getElem? (i := 52) rfl)))⟩
theorem c_V_53 {G : px_Cg} (hG : gg G) : px_CW G.Ts "VisitorSteps" 53 y_H_hasGoalIn b_H_hasGoalIn 3 (some FieldType.boolean) 1 := ⟨Or.inl (hG.t (lm_2 (List.mem_of_getElem? (i := 180) rfl))), hG.t (lm_2 (List.mem_of_getElem? (i := 183) rfl)), hG.t (lm_1 (List.mem_of_getElem? (i := 2) rfl)), ⟨by decide, by decide⟩, by decide +kernel⟩
theorem i_H_hasGoalIn {G : px_Cg} (hG : gg G) : Cond.instanceMethod y_H_hasGoalIn ∈ G.Ts := hG.t (lm_2 (List.mem_of_getElem? (i := 181) rfl))
theorem v_H_hasGoalIn {G : px_Cg} (hG : gg G) : Cond.selects y_H_hasGoalIn.cls y_H_hasGoalIn y_H_hasGoalIn ∈ G.Ts := hG.t (lm_2 (List.mem_of_getElem? (i := 182) rfl))
theorem f_V_57 {G : px_Cg} (hG : gg G) : px_FW G.Ts G.cl "VisitorSteps" 57 2 2 := ⟨R_K, T_K, 11, hG.c rfl, by decide, rfl, fun w h => hG.u h (tw_K w h), Or.inl (hG.t (lm_1 (List.mem_of_getElem? (i := 164) rfl)))⟩
theorem c_V_60 {G : px_Cg} (hG : gg G) : px_CW G.Ts "VisitorSteps" 60 y_H_build b_H_build 4 none 2 := ⟨Or.inl (hG.t (lm_2 (List.mem_of_getElem? (i := 185) rfl))), hG.t (lm_2 (List.mem_of_getElem? (i := 188) rfl)), hG.t (lm_1 (List.mem_of_getElem? (i := 2) rfl)), ⟨by decide, by decide⟩, by decide +kernel⟩
theorem i_H_build {G : px_Cg} (hG : gg G) : Cond.instanceMethod y_H_build ∈ G.Ts := hG.t (lm_2 (List.mem_of_getElem? (i := 186) rfl))
theorem v_H_build {G : px_Cg} (hG : gg G) : Cond.selects y_H_build.cls y_H_build y_H_build ∈ G.Ts := hG.t (lm_2 (List.mem_of_getElem? (i := 187) rfl))
theorem f_V_71 {G : px_Cg} (hG : gg G) : px_FW G.Ts G.cl "VisitorSteps" 71 0 7 := ⟨R_H, T_H, 13, hG.c rfl, by decide, rfl, fun w h => hG.u h (tw_H w h), Or.inl (hG.t (lm_1 (List.mem_of_getElem? (i := 61) rfl)))⟩
theorem c_V_80 {G : px_Cg} (hG : gg G) : px_CW G.Ts "VisitorSteps" 80 y_H_addThing b_H_addThing 5 (some FieldType.int) 3 := ⟨Or.inl (hG.t (lm_2 (List.mem_of_getElem? (i := 234) rfl))), hG.t (lm_2 (List.mem_of_getElem? (i := 237) rfl)), hG.t (lm_1 (List.mem_of_getElem? (i := 2) rfl)), ⟨by decide, by decide⟩, by decide +kernel⟩
theorem i_H_addThing {G : px_Cg} (hG : gg G) : Cond.instanceMethod y_H_addThing ∈ G.Ts := hG.t (lm_2 (List.mem_of_getElem? (i := 235) rfl))
theorem v_H_addThing {G : px_Cg} (hG : gg G) : Cond.selects y_H_addThing.cls y_H_addThing y_H_addThing ∈ G.Ts := hG.t (lm_2 (List.mem_of_getElem? (i := 236) rfl))
theorem f_V_83 {G : px_Cg} (hG : gg G) : px_FW G.Ts G.cl "VisitorSteps" 83 0 8 := ⟨R_H, T_H, 13, hG.c rfl, by decide, rfl, fun w h => hG.u h (tw_H w h), Or.inl (hG.t (lm_1 (List.mem_of_getElem? (i := 64) rfl)))⟩
theorem c_V_88 {G : px_Cg} (hG : gg G) : px_CW G.Ts "VisitorSteps" 88 y_H_addDoor b_H_addDoor 3 (some FieldType.int) 1 := ⟨Or.inl (hG.t (lm_3 (List.mem_of_getElem? (i := 6) rfl))), hG.t (lm_3 (List.mem_of_getElem? (i := 9) rfl)), hG.t (lm_1 (List.mem_of_getElem? (i := 2) rfl)), ⟨by decide, by decide⟩, by decide +kernel⟩
theorem i_H_addDoor {G : px_Cg} (hG : gg G) : Cond.instanceMethod y_H_addDoor ∈ G.Ts := hG.t (lm_3 (List.mem_of_getElem? (i := 7) rfl))
theorem v_H_addDoor {G : px_Cg} (hG : gg G) : Cond.selects y_H_addDoor.cls y_H_addDoor y_H_addDoor ∈ G.Ts := hG.t (lm_3 (List.mem_of_getElem? (i := 8) rfl))
theorem f_V_94 {G : px_Cg} (hG : gg G) : px_FW G.Ts G.cl "VisitorSteps" 94 0 9 := ⟨R_H, T_H, 13, hG.c rfl, by decide, rfl, fun w h => hG.u h (tw_H w h), Or.inl (hG.t (lm_1 (List.mem_of_getElem? (i := 66) rfl)))⟩
theorem f_V_98 {G : px_Cg} (hG : gg G) : px_FW G.Ts G.cl "VisitorSteps" 98 0 10 := ⟨R_H, T_H, 13, hG.c rfl, by decide, rfl, fun w h => hG.u h (tw_H w h), Or.inl (hG.t (lm_1 (List.mem_of_getElem? (i := 69) rfl)))⟩
theorem c_V_100 {G : px_Cg} (hG : gg G) : px_CW G.Ts "VisitorSteps" 100 y_V_existingDoor b_V_existingDoor 2 (some FieldType.int) 1 := ⟨Or.inl (hG.t (lm_3 (List.mem_of_getElem? (i := 33) rfl))), hG.t (lm_3 (List.mem_of_getElem? (i := 36) rfl)), hG.t (lm_1 (List.mem_of_getElem? (i := 1) rfl)), ⟨by decide, by decide⟩, by decide +kernel⟩
theorem i_V_existingDoor {G : px_Cg} (hG : gg G) : Cond.instanceMethod y_V_existingDoor ∈ G.Ts := hG.t (lm_3 (List.mem_of_getElem? (i := 35) rfl))
theorem v_V_existingDoor {G : px_Cg} (hG : gg G) : Cond.selects y_V_existingDoor.cls y_V_existingDoor y_V_existingDoor ∈ G.Ts := hG.t (lm_0 (List.mem_of_getElem? (i := 15) rfl))
theorem f_V_103 {G : px_Cg} (hG : gg G) : px_FW G.Ts G.cl "VisitorSteps" 103 2 7 := ⟨R_K, T_K, 11, hG.c rfl, by decide, rfl, fun w h => hG.u h (tw_K w h), Or.inl (hG.t (lm_1 (List.mem_of_getElem? (i := 174) rfl)))⟩
theorem f_V_108 {G : px_Cg} (hG : gg G) : px_FW G.Ts G.cl "VisitorSteps" 108 2 6 := ⟨R_K, T_K, 11, hG.c rfl, by decide, rfl, fun w h => hG.u h (tw_K w h), Or.inl (hG.t (lm_1 (List.mem_of_getElem? (i := 172) rfl)))⟩
theorem c_V_113 {G : px_Cg} (hG : gg G) : px_CW G.Ts "VisitorSteps" 113 y_K_tell b_K_tell 5 (some FieldType.int) 3 := ⟨Or.inl (hG.t (lm_3 (List.mem_of_getElem? (i := 40) rfl))), hG.t (lm_3 (List.mem_of_getElem? (i := 43) rfl)), hG.t (lm_1 (List.mem_of_getElem? (i := 5) rfl)), ⟨by decide, by decide⟩, by decide +kernel⟩
theorem i_K_tell {G : px_Cg} (hG : gg G) : Cond.instanceMethod y_K_tell ∈ G.Ts := hG.t (lm_3 (List.mem_of_getElem? (i := 41) rfl))
theorem v_K_tell {G : px_Cg} (hG : gg G) : Cond.selects y_K_tell.cls y_K_tell y_K_tell ∈ G.Ts := hG.t (lm_3 (List.mem_of_getElem? (i := 42) rfl))
theorem c_V_118 {G : px_Cg} (hG : gg G) : px_CW G.Ts "VisitorSteps" 118 y_K_passSecond b_K_passSecond 3 none 0 := ⟨Or.inl (hG.t (lm_2 (List.mem_of_getElem? (i := 0) rfl))), hG.t (lm_2 (List.mem_of_getElem? (i := 3) rfl)), hG.t (lm_1 (List.mem_of_getElem? (i := 5) rfl)), ⟨by decide, by decide⟩, by decide +kernel⟩
theorem i_K_passSecond {G : px_Cg} (hG : gg G) : Cond.instanceMethod y_K_passSecond ∈ G.Ts := hG.t (lm_2 (List.mem_of_getElem? (i := 1) rfl))
theorem v_K_passSecond {G : px_Cg} (hG : gg G) : Cond.selects y_K_passSecond.cls y_K_passSecond y_K_passSecond ∈ G.Ts := hG.t (lm_2 (List.mem_of_getElem? (i := 2) rfl))
theorem f_V_121 {G : px_Cg} (hG : gg G) : px_FW G.Ts G.cl "VisitorSteps" 121 2 8 := ⟨R_K, T_K, 11, hG.c rfl, by decide, rfl, fun w h => hG.u h (tw_K w h), Or.inl (hG.t (lm_1 (List.mem_of_getElem? (i := 176) rfl)))⟩
theorem c_V_124 {G : px_Cg} (hG : gg G) : px_CW G.Ts "VisitorSteps" 124 y_V_existingVisitor b_V_existingVisitor 2 (some (FieldType.object "VisitorSteps$Visitor")) 1 := ⟨Or.inl (hG.t (lm_3 (List.mem_of_getElem? (i := 63) rfl))), hG.t (lm_3 (List.mem_of_getElem? (i := 66) rfl)), hG.t (lm_1 (List.mem_of_getElem? (i := 1) rfl)), ⟨by decide, by decide⟩, by decide +kernel⟩
theorem i_V_existingVisitor {G : px_Cg} (hG : gg G) : Cond.instanceMethod y_V_existingVisitor ∈ G.Ts := hG.t (lm_3 (List.mem_of_getElem? (i := 65) rfl))
theorem v_V_existingVisitor {G : px_Cg} (hG : gg G) : Cond.selects y_V_existingVisitor.cls y_V_existingVisitor y_V_existingVisitor ∈ G.Ts := hG.t (lm_0 (List.mem_of_getElem? (i := 17) rfl))
theorem f_V_133 {G : px_Cg} (hG : gg G) : px_FW G.Ts G.cl "VisitorSteps" 133 1 4 := ⟨R_P, T_P, 10, hG.c rfl, by decide, rfl, fun w h => hG.u h (tw_P w h), Or.inl (hG.t (lm_1 (List.mem_of_getElem? (i := 125) rfl)))⟩
theorem f_V_138 {G : px_Cg} (hG : gg G) : px_FW G.Ts G.cl "VisitorSteps" 138 1 5 := ⟨R_P, T_P, 10, hG.c rfl, by decide, rfl, fun w h => hG.u h (tw_P w h), Or.inl (hG.t (lm_1 (List.mem_of_getElem? (i := 128) rfl)))⟩
theorem f_V_141 {G : px_Cg} (hG : gg G) : px_FW G.Ts G.cl "VisitorSteps" 141 1 6 := ⟨R_P, T_P, 10, hG.c rfl, by decide, rfl, fun w h => hG.u h (tw_P w h), Or.inl (hG.t (lm_1 (List.mem_of_getElem? (i := 130) rfl)))⟩
theorem f_V_144 {G : px_Cg} (hG : gg G) : px_FW G.Ts G.cl "VisitorSteps" 144 1 9 := ⟨R_P, T_P, 10, hG.c rfl, by decide, rfl, fun w h => hG.u h (tw_P w h), Or.inl (hG.t (lm_1 (List.mem_of_getElem? (i := 137) rfl)))⟩
theorem f_V_149 {G : px_Cg} (hG : gg G) : px_FW G.Ts G.cl "VisitorSteps" 149 2 3 := ⟨R_K, T_K, 11, hG.c rfl, by decide, rfl, fun w h => hG.u h (tw_K w h), Or.inl (hG.t (lm_1 (List.mem_of_getElem? (i := 166) rfl)))⟩
theorem f_V_152 {G : px_Cg} (hG : gg G) : px_FW G.Ts G.cl "VisitorSteps" 152 2 4 := ⟨R_K, T_K, 11, hG.c rfl, by decide, rfl, fun w h => hG.u h (tw_K w h), Or.inl (hG.t (lm_1 (List.mem_of_getElem? (i := 168) rfl)))⟩
theorem f_V_155 {G : px_Cg} (hG : gg G) : px_FW G.Ts G.cl "VisitorSteps" 155 2 5 := ⟨R_K, T_K, 11, hG.c rfl, by decide, rfl, fun w h => hG.u h (tw_K w h), Or.inl (hG.t (lm_1 (List.mem_of_getElem? (i := 170) rfl)))⟩
theorem c_V_158 {G : px_Cg} (hG : gg G) : px_CW G.Ts "VisitorSteps" 158 y_V_existingThing b_V_existingThing 2 (some FieldType.int) 1 := ⟨Or.inl (hG.t (lm_3 (List.mem_of_getElem? (i := 105) rfl))), hG.t (lm_3 (List.mem_of_getElem? (i := 108) rfl)), hG.t (lm_1 (List.mem_of_getElem? (i := 1) rfl)), ⟨by decide, by decide⟩, by decide +kernel⟩
theorem i_V_existingThing {G : px_Cg} (hG : gg G) : Cond.instanceMethod y_V_existingThing ∈ G.Ts := hG.t (lm_3 (List.mem_of_getElem? (i := 107) rfl))
theorem v_V_existingThing {G : px_Cg} (hG : gg G) : Cond.selects y_V_existingThing.cls y_V_existingThing y_V_existingThing ∈ G.Ts := hG.t (lm_0 (List.mem_of_getElem? (i := 18) rfl))
theorem c_V_161 {G : px_Cg} (hG : gg G) : px_CW G.Ts "VisitorSteps" 161 y_H_distanceTo b_H_distanceTo 4 (some FieldType.int) 2 := ⟨Or.inl (hG.t (lm_3 (List.mem_of_getElem? (i := 117) rfl))), hG.t (lm_2 (List.mem_of_getElem? (i := 11) rfl)), hG.t (lm_1 (List.mem_of_getElem? (i := 2) rfl)), ⟨by decide, by decide⟩, by decide +kernel⟩
theorem i_H_distanceTo {G : px_Cg} (hG : gg G) : Cond.instanceMethod y_H_distanceTo ∈ G.Ts := hG.t (lm_2 (List.mem_of_getElem? (i := 9) rfl))
theorem v_H_distanceTo {G : px_Cg} (hG : gg G) : Cond.selects y_H_distanceTo.cls y_H_distanceTo y_H_distanceTo ∈ G.Ts := hG.t (lm_2 (List.mem_of_getElem? (i := 10) rfl))
theorem c_V_164 {G : px_Cg} (hG : gg G) : px_CW G.Ts "VisitorSteps" 164 y_K_copyFrom b_K_copyFrom 3 none 1 := ⟨Or.inl (hG.t (lm_1 (List.mem_of_getElem? (i := 221) rfl))), hG.t (lm_1 (List.mem_of_getElem? (i := 224) rfl)), hG.t (lm_1 (List.mem_of_getElem? (i := 5) rfl)), ⟨by decide, by decide⟩, by decide +kernel⟩
theorem i_K_copyFrom {G : px_Cg} (hG : gg G) : Cond.instanceMethod y_K_copyFrom ∈ G.Ts := hG.t (lm_1 (List.mem_of_getElem? (i := 222) rfl))
theorem v_K_copyFrom {G : px_Cg} (hG : gg G) : Cond.selects y_K_copyFrom.cls y_K_copyFrom y_K_copyFrom ∈ G.Ts := hG.t (lm_1 (List.mem_of_getElem? (i := 223) rfl))
theorem c_V_168 {G : px_Cg} (hG : gg G) : px_CW G.Ts "VisitorSteps" 168 y_K_startFleeing b_K_startFleeing 2 none 0 := ⟨Or.inl (hG.t (lm_1 (List.mem_of_getElem? (i := 232) rfl))), hG.t (lm_1 (List.mem_of_getElem? (i := 235) rfl)), hG.t (lm_1 (List.mem_of_getElem? (i := 5) rfl)), ⟨by decide, by decide⟩, by decide +kernel⟩
theorem i_K_startFleeing {G : px_Cg} (hG : gg G) : Cond.instanceMethod y_K_startFleeing ∈ G.Ts := hG.t (lm_1 (List.mem_of_getElem? (i := 233) rfl))
theorem v_K_startFleeing {G : px_Cg} (hG : gg G) : Cond.selects y_K_startFleeing.cls y_K_startFleeing y_K_startFleeing ∈ G.Ts := hG.t (lm_1 (List.mem_of_getElem? (i := 234) rfl))
theorem c_V_173 {G : px_Cg} (hG : gg G) : px_CW G.Ts "VisitorSteps" 173 y_V_squaresAnew b_V_squaresAnew 5 (some FieldType.int) 0 := ⟨Or.inl (hG.t (lm_2 (List.mem_of_getElem? (i := 79) rfl))), hG.t (lm_2 (List.mem_of_getElem? (i := 82) rfl)), hG.t (lm_1 (List.mem_of_getElem? (i := 1) rfl)), ⟨by decide, by decide⟩, by decide +kernel⟩
theorem i_V_squaresAnew {G : px_Cg} (hG : gg G) : Cond.instanceMethod y_V_squaresAnew ∈ G.Ts := hG.t (lm_2 (List.mem_of_getElem? (i := 81) rfl))
theorem v_V_squaresAnew {G : px_Cg} (hG : gg G) : Cond.selects y_V_squaresAnew.cls y_V_squaresAnew y_V_squaresAnew ∈ G.Ts := hG.t (lm_0 (List.mem_of_getElem? (i := 11) rfl))
theorem f_V_179 {G : px_Cg} (hG : gg G) : px_FW G.Ts G.cl "VisitorSteps" 179 0 5 := ⟨R_H, T_H, 13, hG.c rfl, by decide, rfl, fun w h => hG.u h (tw_H w h), Or.inl (hG.t (lm_1 (List.mem_of_getElem? (i := 57) rfl)))⟩
theorem c_V_182 {G : px_Cg} (hG : gg G) : px_CW G.Ts "VisitorSteps" 182 y_K_dueBefore b_K_dueBefore 4 (some FieldType.int) 1 := ⟨Or.inl (hG.t (lm_2 (List.mem_of_getElem? (i := 93) rfl))), hG.t (lm_2 (List.mem_of_getElem? (i := 96) rfl)), hG.t (lm_1 (List.mem_of_getElem? (i := 5) rfl)), ⟨by decide, by decide⟩, by decide +kernel⟩
theorem i_K_dueBefore {G : px_Cg} (hG : gg G) : Cond.instanceMethod y_K_dueBefore ∈ G.Ts := hG.t (lm_2 (List.mem_of_getElem? (i := 94) rfl))
theorem v_K_dueBefore {G : px_Cg} (hG : gg G) : Cond.selects y_K_dueBefore.cls y_K_dueBefore y_K_dueBefore ∈ G.Ts := hG.t (lm_2 (List.mem_of_getElem? (i := 95) rfl))
theorem f_V_185 {G : px_Cg} (hG : gg G) : px_FW G.Ts G.cl "VisitorSteps" 185 2 9 := ⟨R_K, T_K, 11, hG.c rfl, by decide, rfl, fun w h => hG.u h (tw_K w h), Or.inl (hG.t (lm_1 (List.mem_of_getElem? (i := 178) rfl)))⟩
theorem c_V_188 {G : px_Cg} (hG : gg G) : px_CW G.Ts "VisitorSteps" 188 y_X_min b_X_min 2 (some FieldType.int) 2 := ⟨Or.inl (hG.t (lm_1 (List.mem_of_getElem? (i := 28) rfl))), hG.t (lm_1 (List.mem_of_getElem? (i := 30) rfl)), hG.t (lm_1 (List.mem_of_getElem? (i := 3) rfl)), ⟨by decide, by decide⟩, by decide +kernel⟩
theorem s_X_min {G : px_Cg} (hG : gg G) : Cond.static y_X_min ∈ G.Ts := hG.t (lm_1 (List.mem_of_getElem? (i := 29) rfl))
theorem c_V_193 {G : px_Cg} (hG : gg G) : px_CW G.Ts "VisitorSteps" 193 y_X_max b_X_max 2 (some FieldType.int) 2 := ⟨Or.inl (hG.t (lm_1 (List.mem_of_getElem? (i := 31) rfl))), hG.t (lm_1 (List.mem_of_getElem? (i := 33) rfl)), hG.t (lm_1 (List.mem_of_getElem? (i := 3) rfl)), ⟨by decide, by decide⟩, by decide +kernel⟩
theorem s_X_max {G : px_Cg} (hG : gg G) : Cond.static y_X_max ∈ G.Ts := hG.t (lm_1 (List.mem_of_getElem? (i := 32) rfl))
theorem f_V_196 {G : px_Cg} (hG : gg G) : px_FW G.Ts G.cl "VisitorSteps" 196 0 0 := ⟨R_H, T_H, 13, hG.c rfl, by decide, rfl, fun w h => hG.u h (tw_H w h), Or.inl (hG.t (lm_1 (List.mem_of_getElem? (i := 45) rfl)))⟩
theorem f_V_199 {G : px_Cg} (hG : gg G) : px_FW G.Ts G.cl "VisitorSteps" 199 0 1 := ⟨R_H, T_H, 13, hG.c rfl, by decide, rfl, fun w h => hG.u h (tw_H w h), Or.inl (hG.t (lm_1 (List.mem_of_getElem? (i := 47) rfl)))⟩
theorem f_V_210 {G : px_Cg} (hG : gg G) : px_FW G.Ts G.cl "VisitorSteps" 210 2 1 := ⟨R_K, T_K, 11, hG.c rfl, by decide, rfl, fun w h => hG.u h (tw_K w h), Or.inl (hG.t (lm_1 (List.mem_of_getElem? (i := 162) rfl)))⟩
theorem c_V_214 {G : px_Cg} (hG : gg G) : px_CW G.Ts "VisitorSteps" 214 y_K_goBackToStart b_K_goBackToStart 2 none 0 := ⟨Or.inl (hG.t (lm_2 (List.mem_of_getElem? (i := 83) rfl))), hG.t (lm_2 (List.mem_of_getElem? (i := 86) rfl)), hG.t (lm_1 (List.mem_of_getElem? (i := 5) rfl)), ⟨by decide, by decide⟩, by decide +kernel⟩
theorem i_K_goBackToStart {G : px_Cg} (hG : gg G) : Cond.instanceMethod y_K_goBackToStart ∈ G.Ts := hG.t (lm_2 (List.mem_of_getElem? (i := 84) rfl))
theorem v_K_goBackToStart {G : px_Cg} (hG : gg G) : Cond.selects y_K_goBackToStart.cls y_K_goBackToStart y_K_goBackToStart ∈ G.Ts := hG.t (lm_2 (List.mem_of_getElem? (i := 85) rfl))
theorem f_M_7 {G : px_Cg} (hG : gg G) : px_FW G.Ts G.cl "VisitorStepsModel" 7 4 4 := ⟨R_M, T_M, 31, hG.c rfl, by decide, rfl, fun w h => hG.u h (tw_M w h), Or.inl (hG.t (lm_3 (List.mem_of_getElem? (i := 159) rfl)))⟩
theorem f_M_13 {G : px_Cg} (hG : gg G) : px_FW G.Ts G.cl "VisitorStepsModel" 13 4 6 := ⟨R_M, T_M, 31, hG.c rfl, by decide, rfl, fun w h => hG.u h (tw_M w h), Or.inl (hG.t (lm_3 (List.mem_of_getElem? (i := 161) rfl)))⟩
theorem f_M_17 {G : px_Cg} (hG : gg G) : px_FW G.Ts G.cl "VisitorStepsModel" 17 4 7 := ⟨R_M, T_M, 31, hG.c rfl, by decide, rfl, fun w h => hG.u h (tw_M w h), Or.inl (hG.t (lm_3 (List.mem_of_getElem? (i := 162) rfl)))⟩
theorem f_M_20 {G : px_Cg} (hG : gg G) : px_FW G.Ts G.cl "VisitorStepsModel" 20 4 8 := ⟨R_M, T_M, 31, hG.c rfl, by decide, rfl, fun w h => hG.u h (tw_M w h), Or.inl (hG.t (lm_3 (List.mem_of_getElem? (i := 163) rfl)))⟩
theorem f_M_23 {G : px_Cg} (hG : gg G) : px_FW G.Ts G.cl "VisitorStepsModel" 23 4 9 := ⟨R_M, T_M, 31, hG.c rfl, by decide, rfl, fun w h => hG.u h (tw_M w h), Or.inl (hG.t (lm_3 (List.mem_of_getElem? (i := 164) rfl)))⟩
theorem f_M_26 {G : px_Cg} (hG : gg G) : px_FW G.Ts G.cl "VisitorStepsModel" 26 4 11 := ⟨R_M, T_M, 31, hG.c rfl, by decide, rfl, fun w h => hG.u h (tw_M w h), Or.inl (hG.t (lm_3 (List.mem_of_getElem? (i := 166) rfl)))⟩
theorem f_M_29 {G : px_Cg} (hG : gg G) : px_FW G.Ts G.cl "VisitorStepsModel" 29 4 12 := ⟨R_M, T_M, 31, hG.c rfl, by decide, rfl, fun w h => hG.u h (tw_M w h), Or.inl (hG.t (lm_3 (List.mem_of_getElem? (i := 167) rfl)))⟩
theorem f_M_33 {G : px_Cg} (hG : gg G) : px_FW G.Ts G.cl "VisitorStepsModel" 33 4 13 := ⟨R_M, T_M, 31, hG.c rfl, by decide, rfl, fun w h => hG.u h (tw_M w h), Or.inl (hG.t (lm_3 (List.mem_of_getElem? (i := 168) rfl)))⟩
theorem f_M_36 {G : px_Cg} (hG : gg G) : px_FW G.Ts G.cl "VisitorStepsModel" 36 4 15 := ⟨R_M, T_M, 31, hG.c rfl, by decide, rfl, fun w h => hG.u h (tw_M w h), Or.inl (hG.t (lm_3 (List.mem_of_getElem? (i := 170) rfl)))⟩
theorem f_M_39 {G : px_Cg} (hG : gg G) : px_FW G.Ts G.cl "VisitorStepsModel" 39 4 16 := ⟨R_M, T_M, 31, hG.c rfl, by decide, rfl, fun w h => hG.u h (tw_M w h), Or.inl (hG.t (lm_3 (List.mem_of_getElem? (i := 171) rfl)))⟩
theorem f_M_42 {G : px_Cg} (hG : gg G) : px_FW G.Ts G.cl "VisitorStepsModel" 42 4 17 := ⟨R_M, T_M, 31, hG.c rfl, by decide, rfl, fun w h => hG.u h (tw_M w h), Or.inl (hG.t (lm_3 (List.mem_of_getElem? (i := 172) rfl)))⟩
theorem f_M_45 {G : px_Cg} (hG : gg G) : px_FW G.Ts G.cl "VisitorStepsModel" 45 4 19 := ⟨R_M, T_M, 31, hG.c rfl, by decide, rfl, fun w h => hG.u h (tw_M w h), Or.inl (hG.t (lm_3 (List.mem_of_getElem? (i := 174) rfl)))⟩
theorem f_M_48 {G : px_Cg} (hG : gg G) : px_FW G.Ts G.cl "VisitorStepsModel" 48 4 20 := ⟨R_M, T_M, 31, hG.c rfl, by decide, rfl, fun w h => hG.u h (tw_M w h), Or.inl (hG.t (lm_3 (List.mem_of_getElem? (i := 175) rfl)))⟩
theorem f_M_51 {G : px_Cg} (hG : gg G) : px_FW G.Ts G.cl "VisitorStepsModel" 51 4 21 := ⟨R_M, T_M, 31, hG.c rfl, by decide, rfl, fun w h => hG.u h (tw_M w h), Or.inl (hG.t (lm_3 (List.mem_of_getElem? (i := 176) rfl)))⟩
theorem f_M_54 {G : px_Cg} (hG : gg G) : px_FW G.Ts G.cl "VisitorStepsModel" 54 4 22 := ⟨R_M, T_M, 31, hG.c rfl, by decide, rfl, fun w h => hG.u h (tw_M w h), Or.inl (hG.t (lm_3 (List.mem_of_getElem? (i := 177) rfl)))⟩
theorem f_M_57 {G : px_Cg} (hG : gg G) : px_FW G.Ts G.cl "VisitorStepsModel" 57 4 23 := ⟨R_M, T_M, 31, hG.c rfl, by decide, rfl, fun w h => hG.u h (tw_M w h), Or.inl (hG.t (lm_3 (List.mem_of_getElem? (i := 178) rfl)))⟩
theorem f_M_60 {G : px_Cg} (hG : gg G) : px_FW G.Ts G.cl "VisitorStepsModel" 60 4 24 := ⟨R_M, T_M, 31, hG.c rfl, by decide, rfl, fun w h => hG.u h (tw_M w h), Or.inl (hG.t (lm_3 (List.mem_of_getElem? (i := 179) rfl)))⟩
theorem f_M_63 {G : px_Cg} (hG : gg G) : px_FW G.Ts G.cl "VisitorStepsModel" 63 4 25 := ⟨R_M, T_M, 31, hG.c rfl, by decide, rfl, fun w h => hG.u h (tw_M w h), Or.inl (hG.t (lm_3 (List.mem_of_getElem? (i := 180) rfl)))⟩
theorem f_M_66 {G : px_Cg} (hG : gg G) : px_FW G.Ts G.cl "VisitorStepsModel" 66 4 26 := ⟨R_M, T_M, 31, hG.c rfl, by decide, rfl, fun w h => hG.u h (tw_M w h), Or.inl (hG.t (lm_3 (List.mem_of_getElem? (i := 181) rfl)))⟩
theorem f_M_69 {G : px_Cg} (hG : gg G) : px_FW G.Ts G.cl "VisitorStepsModel" 69 4 27 := ⟨R_M, T_M, 31, hG.c rfl, by decide, rfl, fun w h => hG.u h (tw_M w h), Or.inl (hG.t (lm_3 (List.mem_of_getElem? (i := 182) rfl)))⟩
theorem f_M_72 {G : px_Cg} (hG : gg G) : px_FW G.Ts G.cl "VisitorStepsModel" 72 4 28 := ⟨R_M, T_M, 31, hG.c rfl, by decide, rfl, fun w h => hG.u h (tw_M w h), Or.inl (hG.t (lm_3 (List.mem_of_getElem? (i := 183) rfl)))⟩
theorem f_M_75 {G : px_Cg} (hG : gg G) : px_FW G.Ts G.cl "VisitorStepsModel" 75 4 29 := ⟨R_M, T_M, 31, hG.c rfl, by decide, rfl, fun w h => hG.u h (tw_M w h), Or.inl (hG.t (lm_3 (List.mem_of_getElem? (i := 184) rfl)))⟩
theorem f_M_78 {G : px_Cg} (hG : gg G) : px_FW G.Ts G.cl "VisitorStepsModel" 78 4 30 := ⟨R_M, T_M, 31, hG.c rfl, by decide, rfl, fun w h => hG.u h (tw_M w h), Or.inl (hG.t (lm_3 (List.mem_of_getElem? (i := 185) rfl)))⟩
theorem f_M_81 {G : px_Cg} (hG : gg G) : px_FW G.Ts G.cl "VisitorStepsModel" 81 4 1 := ⟨R_M, T_M, 31, hG.c rfl, by decide, rfl, fun w h => hG.u h (tw_M w h), Or.inl (hG.t (lm_3 (List.mem_of_getElem? (i := 156) rfl)))⟩
theorem f_M_84 {G : px_Cg} (hG : gg G) : px_FW G.Ts G.cl "VisitorStepsModel" 84 4 2 := ⟨R_M, T_M, 31, hG.c rfl, by decide, rfl, fun w h => hG.u h (tw_M w h), Or.inl (hG.t (lm_3 (List.mem_of_getElem? (i := 157) rfl)))⟩
theorem f_M_88 {G : px_Cg} (hG : gg G) : px_FW G.Ts G.cl "VisitorStepsModel" 88 4 3 := ⟨R_M, T_M, 31, hG.c rfl, by decide, rfl, fun w h => hG.u h (tw_M w h), Or.inl (hG.t (lm_3 (List.mem_of_getElem? (i := 158) rfl)))⟩
theorem f_M_91 {G : px_Cg} (hG : gg G) : px_FW G.Ts G.cl "VisitorStepsModel" 91 4 0 := ⟨R_M, T_M, 31, hG.c rfl, by decide, rfl, fun w h => hG.u h (tw_M w h), Or.inl (hG.t (lm_3 (List.mem_of_getElem? (i := 155) rfl)))⟩
theorem c_M_94 {G : px_Cg} (hG : gg G) : px_CW G.Ts "VisitorStepsModel" 94 y_M_within b_M_within 3 (some FieldType.boolean) 3 := ⟨Or.inl (hG.t (lm_4 (List.mem_of_getElem? (i := 21) rfl))), hG.t (lm_4 (List.mem_of_getElem? (i := 23) rfl)), hG.t (lm_1 (List.mem_of_getElem? (i := 7) rfl)), ⟨by decide, by decide⟩, by decide +kernel⟩
theorem s_M_within {G : px_Cg} (hG : gg G) : Cond.static y_M_within ∈ G.Ts := hG.t (lm_4 (List.mem_of_getElem? (i := 22) rfl))
theorem f_M_98 {G : px_Cg} (hG : gg G) : px_FW G.Ts G.cl "VisitorStepsModel" 98 4 14 := ⟨R_M, T_M, 31, hG.c rfl, by decide, rfl, fun w h => hG.u h (tw_M w h), Or.inl (hG.t (lm_3 (List.mem_of_getElem? (i := 169) rfl)))⟩
theorem c_M_101 {G : px_Cg} (hG : gg G) : px_CW G.Ts "VisitorStepsModel" 101 y_M_isCell b_M_isCell 3 (some FieldType.boolean) 2 := ⟨Or.inl (hG.t (lm_4 (List.mem_of_getElem? (i := 17) rfl))), hG.t (lm_4 (List.mem_of_getElem? (i := 20) rfl)), hG.t (lm_1 (List.mem_of_getElem? (i := 7) rfl)), ⟨by decide, by decide⟩, by decide +kernel⟩
theorem i_M_isCell {G : px_Cg} (hG : gg G) : Cond.instanceMethod y_M_isCell ∈ G.Ts := hG.t (lm_4 (List.mem_of_getElem? (i := 19) rfl))
theorem v_M_isCell {G : px_Cg} (hG : gg G) : Cond.selects y_M_isCell.cls y_M_isCell y_M_isCell ∈ G.Ts := hG.t (lm_0 (List.mem_of_getElem? (i := 19) rfl))
theorem c_M_105 {G : px_Cg} (hG : gg G) : px_CW G.Ts "VisitorStepsModel" 105 y_M_goes b_M_goes 4 (some FieldType.boolean) 3 := ⟨Or.inl (hG.t (lm_4 (List.mem_of_getElem? (i := 24) rfl))), hG.t (lm_4 (List.mem_of_getElem? (i := 27) rfl)), hG.t (lm_1 (List.mem_of_getElem? (i := 7) rfl)), ⟨by decide, by decide⟩, by decide +kernel⟩
theorem i_M_goes {G : px_Cg} (hG : gg G) : Cond.instanceMethod y_M_goes ∈ G.Ts := hG.t (lm_4 (List.mem_of_getElem? (i := 26) rfl))
theorem v_M_goes {G : px_Cg} (hG : gg G) : Cond.selects y_M_goes.cls y_M_goes y_M_goes ∈ G.Ts := hG.t (lm_0 (List.mem_of_getElem? (i := 20) rfl))
theorem c_M_109 {G : px_Cg} (hG : gg G) : px_CW G.Ts "VisitorStepsModel" 109 y_M_crowdOf b_M_crowdOf 4 (some FieldType.int) 1 := ⟨Or.inl (hG.t (lm_4 (List.mem_of_getElem? (i := 28) rfl))), hG.t (lm_4 (List.mem_of_getElem? (i := 31) rfl)), hG.t (lm_1 (List.mem_of_getElem? (i := 7) rfl)), ⟨by decide, by decide⟩, by decide +kernel⟩
theorem i_M_crowdOf {G : px_Cg} (hG : gg G) : Cond.instanceMethod y_M_crowdOf ∈ G.Ts := hG.t (lm_4 (List.mem_of_getElem? (i := 30) rfl))
theorem v_M_crowdOf {G : px_Cg} (hG : gg G) : Cond.selects y_M_crowdOf.cls y_M_crowdOf y_M_crowdOf ∈ G.Ts := hG.t (lm_0 (List.mem_of_getElem? (i := 21) rfl))
theorem f_M_113 {G : px_Cg} (hG : gg G) : px_FW G.Ts G.cl "VisitorStepsModel" 113 4 5 := ⟨R_M, T_M, 31, hG.c rfl, by decide, rfl, fun w h => hG.u h (tw_M w h), Or.inl (hG.t (lm_3 (List.mem_of_getElem? (i := 160) rfl)))⟩
theorem f_M_116 {G : px_Cg} (hG : gg G) : px_FW G.Ts G.cl "VisitorStepsModel" 116 4 10 := ⟨R_M, T_M, 31, hG.c rfl, by decide, rfl, fun w h => hG.u h (tw_M w h), Or.inl (hG.t (lm_3 (List.mem_of_getElem? (i := 165) rfl)))⟩
theorem f_M_119 {G : px_Cg} (hG : gg G) : px_FW G.Ts G.cl "VisitorStepsModel" 119 4 18 := ⟨R_M, T_M, 31, hG.c rfl, by decide, rfl, fun w h => hG.u h (tw_M w h), Or.inl (hG.t (lm_3 (List.mem_of_getElem? (i := 173) rfl)))⟩
theorem c_M_122 {G : px_Cg} (hG : gg G) : px_CW G.Ts "VisitorStepsModel" 122 y_M_stepAt b_M_stepAt 3 (some FieldType.int) 2 := ⟨Or.inl (hG.t (lm_4 (List.mem_of_getElem? (i := 64) rfl))), hG.t (lm_4 (List.mem_of_getElem? (i := 67) rfl)), hG.t (lm_1 (List.mem_of_getElem? (i := 7) rfl)), ⟨by decide, by decide⟩, by decide +kernel⟩
theorem i_M_stepAt {G : px_Cg} (hG : gg G) : Cond.instanceMethod y_M_stepAt ∈ G.Ts := hG.t (lm_4 (List.mem_of_getElem? (i := 66) rfl))
theorem v_M_stepAt {G : px_Cg} (hG : gg G) : Cond.selects y_M_stepAt.cls y_M_stepAt y_M_stepAt ∈ G.Ts := hG.t (lm_0 (List.mem_of_getElem? (i := 24) rfl))
theorem c_M_126 {G : px_Cg} (hG : gg G) : px_CW G.Ts "VisitorStepsModel" 126 y_M_measure b_M_measure 7 none 2 := ⟨Or.inl (hG.t (lm_4 (List.mem_of_getElem? (i := 60) rfl))), hG.t (lm_4 (List.mem_of_getElem? (i := 63) rfl)), hG.t (lm_1 (List.mem_of_getElem? (i := 7) rfl)), ⟨by decide, by decide⟩, by decide +kernel⟩
theorem i_M_measure {G : px_Cg} (hG : gg G) : Cond.instanceMethod y_M_measure ∈ G.Ts := hG.t (lm_4 (List.mem_of_getElem? (i := 62) rfl))
theorem v_M_measure {G : px_Cg} (hG : gg G) : Cond.selects y_M_measure.cls y_M_measure y_M_measure ∈ G.Ts := hG.t (lm_0 (List.mem_of_getElem? (i := 23) rfl))
theorem c_M_130 {G : px_Cg} (hG : gg G) : px_CW G.Ts "VisitorStepsModel" 130 y_M_rowOf b_M_rowOf 1 (some FieldType.int) 1 := ⟨Or.inl (hG.t (lm_4 (List.mem_of_getElem? (i := 80) rfl))), hG.t (lm_4 (List.mem_of_getElem? (i := 82) rfl)), hG.t (lm_1 (List.mem_of_getElem? (i := 7) rfl)), ⟨by decide, by decide⟩, by decide +kernel⟩
theorem s_M_rowOf {G : px_Cg} (hG : gg G) : Cond.static y_M_rowOf ∈ G.Ts := hG.t (lm_4 (List.mem_of_getElem? (i := 81) rfl))
theorem c_M_133 {G : px_Cg} (hG : gg G) : px_CW G.Ts "VisitorStepsModel" 133 y_M_distance b_M_distance 3 (some FieldType.int) 2 := ⟨Or.inl (hG.t (lm_4 (List.mem_of_getElem? (i := 76) rfl))), hG.t (lm_4 (List.mem_of_getElem? (i := 79) rfl)), hG.t (lm_1 (List.mem_of_getElem? (i := 7) rfl)), ⟨by decide, by decide⟩, by decide +kernel⟩
theorem i_M_distance {G : px_Cg} (hG : gg G) : Cond.instanceMethod y_M_distance ∈ G.Ts := hG.t (lm_4 (List.mem_of_getElem? (i := 78) rfl))
theorem v_M_distance {G : px_Cg} (hG : gg G) : Cond.selects y_M_distance.cls y_M_distance y_M_distance ∈ G.Ts := hG.t (lm_0 (List.mem_of_getElem? (i := 27) rfl))
theorem c_M_136 {G : px_Cg} (hG : gg G) : px_CW G.Ts "VisitorStepsModel" 136 y_M_many b_M_many 4 (some FieldType.int) 1 := ⟨Or.inl (hG.t (lm_4 (List.mem_of_getElem? (i := 91) rfl))), hG.t (lm_4 (List.mem_of_getElem? (i := 94) rfl)), hG.t (lm_1 (List.mem_of_getElem? (i := 7) rfl)), ⟨by decide, by decide⟩, by decide +kernel⟩
theorem i_M_many {G : px_Cg} (hG : gg G) : Cond.instanceMethod y_M_many ∈ G.Ts := hG.t (lm_4 (List.mem_of_getElem? (i := 93) rfl))
theorem v_M_many {G : px_Cg} (hG : gg G) : Cond.selects y_M_many.cls y_M_many y_M_many ∈ G.Ts := hG.t (lm_0 (List.mem_of_getElem? (i := 30) rfl))
theorem c_M_139 {G : px_Cg} (hG : gg G) : px_CW G.Ts "VisitorStepsModel" 139 y_M_nearest b_M_nearest 5 (some FieldType.int) 1 := ⟨Or.inl (hG.t (lm_4 (List.mem_of_getElem? (i := 83) rfl))), hG.t (lm_4 (List.mem_of_getElem? (i := 86) rfl)), hG.t (lm_1 (List.mem_of_getElem? (i := 7) rfl)), ⟨by decide, by decide⟩, by decide +kernel⟩
theorem i_M_nearest {G : px_Cg} (hG : gg G) : Cond.instanceMethod y_M_nearest ∈ G.Ts := hG.t (lm_4 (List.mem_of_getElem? (i := 85) rfl))
theorem v_M_nearest {G : px_Cg} (hG : gg G) : Cond.selects y_M_nearest.cls y_M_nearest y_M_nearest ∈ G.Ts := hG.t (lm_0 (List.mem_of_getElem? (i := 28) rfl))
theorem c_M_142 {G : px_Cg} (hG : gg G) : px_CW G.Ts "VisitorStepsModel" 142 y_M_key b_M_key 3 (some FieldType.int) 1 := ⟨Or.inl (hG.t (lm_4 (List.mem_of_getElem? (i := 95) rfl))), hG.t (lm_4 (List.mem_of_getElem? (i := 98) rfl)), hG.t (lm_1 (List.mem_of_getElem? (i := 7) rfl)), ⟨by decide, by decide⟩, by decide +kernel⟩
theorem i_M_key {G : px_Cg} (hG : gg G) : Cond.instanceMethod y_M_key ∈ G.Ts := hG.t (lm_4 (List.mem_of_getElem? (i := 97) rfl))
theorem v_M_key {G : px_Cg} (hG : gg G) : Cond.selects y_M_key.cls y_M_key y_M_key ∈ G.Ts := hG.t (lm_0 (List.mem_of_getElem? (i := 31) rfl))
theorem c_M_146 {G : px_Cg} (hG : gg G) : px_CW G.Ts "VisitorStepsModel" 146 y_M_isReady b_M_isReady 3 (some FieldType.boolean) 2 := ⟨Or.inl (hG.t (lm_4 (List.mem_of_getElem? (i := 108) rfl))), hG.t (lm_4 (List.mem_of_getElem? (i := 111) rfl)), hG.t (lm_1 (List.mem_of_getElem? (i := 7) rfl)), ⟨by decide, by decide⟩, by decide +kernel⟩
theorem i_M_isReady {G : px_Cg} (hG : gg G) : Cond.instanceMethod y_M_isReady ∈ G.Ts := hG.t (lm_4 (List.mem_of_getElem? (i := 110) rfl))
theorem v_M_isReady {G : px_Cg} (hG : gg G) : Cond.selects y_M_isReady.cls y_M_isReady y_M_isReady ∈ G.Ts := hG.t (lm_0 (List.mem_of_getElem? (i := 34) rfl))
theorem c_M_149 {G : px_Cg} (hG : gg G) : px_CW G.Ts "VisitorStepsModel" 149 y_M_chosen b_M_chosen 7 (some FieldType.int) 1 := ⟨Or.inl (hG.t (lm_4 (List.mem_of_getElem? (i := 87) rfl))), hG.t (lm_4 (List.mem_of_getElem? (i := 90) rfl)), hG.t (lm_1 (List.mem_of_getElem? (i := 7) rfl)), ⟨by decide, by decide⟩, by decide +kernel⟩
theorem i_M_chosen {G : px_Cg} (hG : gg G) : Cond.instanceMethod y_M_chosen ∈ G.Ts := hG.t (lm_4 (List.mem_of_getElem? (i := 89) rfl))
theorem v_M_chosen {G : px_Cg} (hG : gg G) : Cond.selects y_M_chosen.cls y_M_chosen y_M_chosen ∈ G.Ts := hG.t (lm_0 (List.mem_of_getElem? (i := 29) rfl))
theorem c_M_152 {G : px_Cg} (hG : gg G) : px_CW G.Ts "VisitorStepsModel" 152 y_M_next b_M_next 9 (some FieldType.int) 2 := ⟨Or.inl (hG.t (lm_4 (List.mem_of_getElem? (i := 100) rfl))), hG.t (lm_4 (List.mem_of_getElem? (i := 103) rfl)), hG.t (lm_1 (List.mem_of_getElem? (i := 7) rfl)), ⟨by decide, by decide⟩, by decide +kernel⟩
theorem i_M_next {G : px_Cg} (hG : gg G) : Cond.instanceMethod y_M_next ∈ G.Ts := hG.t (lm_4 (List.mem_of_getElem? (i := 102) rfl))
theorem v_M_next {G : px_Cg} (hG : gg G) : Cond.selects y_M_next.cls y_M_next y_M_next ∈ G.Ts := hG.t (lm_0 (List.mem_of_getElem? (i := 32) rfl))
theorem c_M_155 {G : px_Cg} (hG : gg G) : px_CW G.Ts "VisitorStepsModel" 155 y_M_look b_M_look 6 none 1 := ⟨Or.inl (hG.t (lm_4 (List.mem_of_getElem? (i := 104) rfl))), hG.t (lm_4 (List.mem_of_getElem? (i := 107) rfl)), hG.t (lm_1 (List.mem_of_getElem? (i := 7) rfl)), ⟨by decide, by decide⟩, by decide +kernel⟩
theorem i_M_look {G : px_Cg} (hG : gg G) : Cond.instanceMethod y_M_look ∈ G.Ts := hG.t (lm_4 (List.mem_of_getElem? (i := 106) rfl))
theorem v_M_look {G : px_Cg} (hG : gg G) : Cond.selects y_M_look.cls y_M_look y_M_look ∈ G.Ts := hG.t (lm_0 (List.mem_of_getElem? (i := 33) rfl))
theorem c_M_159 {G : px_Cg} (hG : gg G) : px_CW G.Ts "VisitorStepsModel" 159 y_M_act b_M_act 5 none 2 := ⟨Or.inl (hG.t (lm_4 (List.mem_of_getElem? (i := 72) rfl))), hG.t (lm_4 (List.mem_of_getElem? (i := 75) rfl)), hG.t (lm_1 (List.mem_of_getElem? (i := 7) rfl)), ⟨by decide, by decide⟩, by decide +kernel⟩
theorem i_M_act {G : px_Cg} (hG : gg G) : Cond.instanceMethod y_M_act ∈ G.Ts := hG.t (lm_4 (List.mem_of_getElem? (i := 74) rfl))
theorem v_M_act {G : px_Cg} (hG : gg G) : Cond.selects y_M_act.cls y_M_act y_M_act ∈ G.Ts := hG.t (lm_0 (List.mem_of_getElem? (i := 26) rfl))
theorem c_M_163 {G : px_Cg} (hG : gg G) : px_CW G.Ts "VisitorStepsModel" 163 y_M_measureAll b_M_measureAll 2 none 0 := ⟨Or.inl (hG.t (lm_4 (List.mem_of_getElem? (i := 56) rfl))), hG.t (lm_4 (List.mem_of_getElem? (i := 59) rfl)), hG.t (lm_1 (List.mem_of_getElem? (i := 7) rfl)), ⟨by decide, by decide⟩, by decide +kernel⟩
theorem i_M_measureAll {G : px_Cg} (hG : gg G) : Cond.instanceMethod y_M_measureAll ∈ G.Ts := hG.t (lm_4 (List.mem_of_getElem? (i := 58) rfl))
theorem v_M_measureAll {G : px_Cg} (hG : gg G) : Cond.selects y_M_measureAll.cls y_M_measureAll y_M_measureAll ∈ G.Ts := hG.t (lm_0 (List.mem_of_getElem? (i := 22) rfl))
theorem c_M_166 {G : px_Cg} (hG : gg G) : px_CW G.Ts "VisitorStepsModel" 166 y_M_pass b_M_pass 4 none 2 := ⟨Or.inl (hG.t (lm_4 (List.mem_of_getElem? (i := 68) rfl))), hG.t (lm_4 (List.mem_of_getElem? (i := 71) rfl)), hG.t (lm_1 (List.mem_of_getElem? (i := 7) rfl)), ⟨by decide, by decide⟩, by decide +kernel⟩
theorem i_M_pass {G : px_Cg} (hG : gg G) : Cond.instanceMethod y_M_pass ∈ G.Ts := hG.t (lm_4 (List.mem_of_getElem? (i := 70) rfl))
theorem v_M_pass {G : px_Cg} (hG : gg G) : Cond.selects y_M_pass.cls y_M_pass y_M_pass ∈ G.Ts := hG.t (lm_0 (List.mem_of_getElem? (i := 25) rfl))
theorem c_M_169 {G : px_Cg} (hG : gg G) : px_CW G.Ts "VisitorStepsModel" 169 y_M_inside b_M_inside 3 (some FieldType.int) 0 := ⟨Or.inl (hG.t (lm_4 (List.mem_of_getElem? (i := 112) rfl))), hG.t (lm_4 (List.mem_of_getElem? (i := 115) rfl)), hG.t (lm_1 (List.mem_of_getElem? (i := 7) rfl)), ⟨by decide, by decide⟩, by decide +kernel⟩
theorem i_M_inside {G : px_Cg} (hG : gg G) : Cond.instanceMethod y_M_inside ∈ G.Ts := hG.t (lm_4 (List.mem_of_getElem? (i := 114) rfl))
theorem v_M_inside {G : px_Cg} (hG : gg G) : Cond.selects y_M_inside.cls y_M_inside y_M_inside ∈ G.Ts := hG.t (lm_0 (List.mem_of_getElem? (i := 35) rfl))
theorem c_M_173 {G : px_Cg} (hG : gg G) : px_CW G.Ts "VisitorStepsModel" 173 y_M_isVisitor b_M_isVisitor 2 (some FieldType.boolean) 1 := ⟨Or.inl (hG.t (lm_4 (List.mem_of_getElem? (i := 120) rfl))), hG.t (lm_4 (List.mem_of_getElem? (i := 123) rfl)), hG.t (lm_1 (List.mem_of_getElem? (i := 7) rfl)), ⟨by decide, by decide⟩, by decide +kernel⟩
theorem i_M_isVisitor {G : px_Cg} (hG : gg G) : Cond.instanceMethod y_M_isVisitor ∈ G.Ts := hG.t (lm_4 (List.mem_of_getElem? (i := 122) rfl))
theorem v_M_isVisitor {G : px_Cg} (hG : gg G) : Cond.selects y_M_isVisitor.cls y_M_isVisitor y_M_isVisitor ∈ G.Ts := hG.t (lm_0 (List.mem_of_getElem? (i := 36) rfl))
theorem c_M_177 {G : px_Cg} (hG : gg G) : px_CW G.Ts "VisitorStepsModel" 177 y_M_seenOf b_M_seenOf 4 (some FieldType.int) 1 := ⟨Or.inl (hG.t (lm_4 (List.mem_of_getElem? (i := 144) rfl))), hG.t (lm_4 (List.mem_of_getElem? (i := 147) rfl)), hG.t (lm_1 (List.mem_of_getElem? (i := 7) rfl)), ⟨by decide, by decide⟩, by decide +kernel⟩
theorem i_M_seenOf {G : px_Cg} (hG : gg G) : Cond.instanceMethod y_M_seenOf ∈ G.Ts := hG.t (lm_4 (List.mem_of_getElem? (i := 146) rfl))
theorem v_M_seenOf {G : px_Cg} (hG : gg G) : Cond.selects y_M_seenOf.cls y_M_seenOf y_M_seenOf ∈ G.Ts := hG.t (lm_0 (List.mem_of_getElem? (i := 37) rfl))
theorem c_M_180 {G : px_Cg} (hG : gg G) : px_CW G.Ts "VisitorStepsModel" 180 y_M_keep b_M_keep 2 none 0 := ⟨Or.inl (hG.t (lm_4 (List.mem_of_getElem? (i := 156) rfl))), hG.t (lm_4 (List.mem_of_getElem? (i := 159) rfl)), hG.t (lm_1 (List.mem_of_getElem? (i := 7) rfl)), ⟨by decide, by decide⟩, by decide +kernel⟩
theorem i_M_keep {G : px_Cg} (hG : gg G) : Cond.instanceMethod y_M_keep ∈ G.Ts := hG.t (lm_4 (List.mem_of_getElem? (i := 158) rfl))
theorem v_M_keep {G : px_Cg} (hG : gg G) : Cond.selects y_M_keep.cls y_M_keep y_M_keep ∈ G.Ts := hG.t (lm_0 (List.mem_of_getElem? (i := 38) rfl))
theorem c_M_183 {G : px_Cg} (hG : gg G) : px_CW G.Ts "VisitorStepsModel" 183 y_M_putBack b_M_putBack 2 none 0 := ⟨Or.inl (hG.t (lm_4 (List.mem_of_getElem? (i := 160) rfl))), hG.t (lm_4 (List.mem_of_getElem? (i := 163) rfl)), hG.t (lm_1 (List.mem_of_getElem? (i := 7) rfl)), ⟨by decide, by decide⟩, by decide +kernel⟩
theorem i_M_putBack {G : px_Cg} (hG : gg G) : Cond.instanceMethod y_M_putBack ∈ G.Ts := hG.t (lm_4 (List.mem_of_getElem? (i := 162) rfl))
theorem v_M_putBack {G : px_Cg} (hG : gg G) : Cond.selects y_M_putBack.cls y_M_putBack y_M_putBack ∈ G.Ts := hG.t (lm_0 (List.mem_of_getElem? (i := 39) rfl))
theorem c_M_186 {G : px_Cg} (hG : gg G) : px_CW G.Ts "VisitorStepsModel" 186 y_M_anew b_M_anew 4 (some FieldType.int) 0 := ⟨Or.inl (hG.t (lm_4 (List.mem_of_getElem? (i := 172) rfl))), hG.t (lm_4 (List.mem_of_getElem? (i := 175) rfl)), hG.t (lm_1 (List.mem_of_getElem? (i := 7) rfl)), ⟨by decide, by decide⟩, by decide +kernel⟩
theorem i_M_anew {G : px_Cg} (hG : gg G) : Cond.instanceMethod y_M_anew ∈ G.Ts := hG.t (lm_4 (List.mem_of_getElem? (i := 174) rfl))
theorem v_M_anew {G : px_Cg} (hG : gg G) : Cond.selects y_M_anew.cls y_M_anew y_M_anew ∈ G.Ts := hG.t (lm_0 (List.mem_of_getElem? (i := 40) rfl))
theorem c_M_189 {G : px_Cg} (hG : gg G) : px_CW G.Ts "VisitorStepsModel" 189 y_M_tries b_M_tries 6 (some FieldType.boolean) 2 := ⟨Or.inl (hG.t (lm_4 (List.mem_of_getElem? (i := 180) rfl))), hG.t (lm_4 (List.mem_of_getElem? (i := 183) rfl)), hG.t (lm_1 (List.mem_of_getElem? (i := 7) rfl)), ⟨by decide, by decide⟩, by decide +kernel⟩
theorem i_M_tries {G : px_Cg} (hG : gg G) : Cond.instanceMethod y_M_tries ∈ G.Ts := hG.t (lm_4 (List.mem_of_getElem? (i := 182) rfl))
theorem v_M_tries {G : px_Cg} (hG : gg G) : Cond.selects y_M_tries.cls y_M_tries y_M_tries ∈ G.Ts := hG.t (lm_0 (List.mem_of_getElem? (i := 41) rfl))
theorem f_H_9 {G : px_Cg} (hG : gg G) : px_FW G.Ts G.cl "VisitorSteps$House" 9 0 4 := ⟨R_H, T_H, 13, hG.c rfl, by decide, rfl, fun w h => hG.u h (tw_H w h), Or.inl (hG.t (lm_1 (List.mem_of_getElem? (i := 53) rfl)))⟩
theorem f_H_15 {G : px_Cg} (hG : gg G) : px_FW G.Ts G.cl "VisitorSteps$House" 15 0 5 := ⟨R_H, T_H, 13, hG.c rfl, by decide, rfl, fun w h => hG.u h (tw_H w h), Or.inl (hG.t (lm_1 (List.mem_of_getElem? (i := 55) rfl)))⟩
theorem f_H_18 {G : px_Cg} (hG : gg G) : px_FW G.Ts G.cl "VisitorSteps$House" 18 0 6 := ⟨R_H, T_H, 13, hG.c rfl, by decide, rfl, fun w h => hG.u h (tw_H w h), Or.inl (hG.t (lm_1 (List.mem_of_getElem? (i := 58) rfl)))⟩
theorem f_H_21 {G : px_Cg} (hG : gg G) : px_FW G.Ts G.cl "VisitorSteps$House" 21 0 7 := ⟨R_H, T_H, 13, hG.c rfl, by decide, rfl, fun w h => hG.u h (tw_H w h), Or.inl (hG.t (lm_1 (List.mem_of_getElem? (i := 60) rfl)))⟩
theorem f_H_25 {G : px_Cg} (hG : gg G) : px_FW G.Ts G.cl "VisitorSteps$House" 25 0 8 := ⟨R_H, T_H, 13, hG.c rfl, by decide, rfl, fun w h => hG.u h (tw_H w h), Or.inl (hG.t (lm_1 (List.mem_of_getElem? (i := 63) rfl)))⟩
theorem f_H_28 {G : px_Cg} (hG : gg G) : px_FW G.Ts G.cl "VisitorSteps$House" 28 0 9 := ⟨R_H, T_H, 13, hG.c rfl, by decide, rfl, fun w h => hG.u h (tw_H w h), Or.inl (hG.t (lm_1 (List.mem_of_getElem? (i := 65) rfl)))⟩
theorem f_H_31 {G : px_Cg} (hG : gg G) : px_FW G.Ts G.cl "VisitorSteps$House" 31 0 10 := ⟨R_H, T_H, 13, hG.c rfl, by decide, rfl, fun w h => hG.u h (tw_H w h), Or.inl (hG.t (lm_1 (List.mem_of_getElem? (i := 68) rfl)))⟩
theorem f_H_34 {G : px_Cg} (hG : gg G) : px_FW G.Ts G.cl "VisitorSteps$House" 34 0 0 := ⟨R_H, T_H, 13, hG.c rfl, by decide, rfl, fun w h => hG.u h (tw_H w h), Or.inl (hG.t (lm_1 (List.mem_of_getElem? (i := 44) rfl)))⟩
theorem f_H_37 {G : px_Cg} (hG : gg G) : px_FW G.Ts G.cl "VisitorSteps$House" 37 0 1 := ⟨R_H, T_H, 13, hG.c rfl, by decide, rfl, fun w h => hG.u h (tw_H w h), Or.inl (hG.t (lm_1 (List.mem_of_getElem? (i := 46) rfl)))⟩
theorem f_H_40 {G : px_Cg} (hG : gg G) : px_FW G.Ts G.cl "VisitorSteps$House" 40 0 2 := ⟨R_H, T_H, 13, hG.c rfl, by decide, rfl, fun w h => hG.u h (tw_H w h), Or.inl (hG.t (lm_1 (List.mem_of_getElem? (i := 48) rfl)))⟩
theorem f_H_43 {G : px_Cg} (hG : gg G) : px_FW G.Ts G.cl "VisitorSteps$House" 43 0 3 := ⟨R_H, T_H, 13, hG.c rfl, by decide, rfl, fun w h => hG.u h (tw_H w h), Or.inl (hG.t (lm_1 (List.mem_of_getElem? (i := 51) rfl)))⟩
theorem f_H_49 {G : px_Cg} (hG : gg G) : px_FW G.Ts G.cl "VisitorSteps$House" 49 0 11 := ⟨R_H, T_H, 13, hG.c rfl, by decide, rfl, fun w h => hG.u h (tw_H w h), Or.inl (hG.t (lm_1 (List.mem_of_getElem? (i := 71) rfl)))⟩
theorem f_H_52 {G : px_Cg} (hG : gg G) : px_FW G.Ts G.cl "VisitorSteps$House" 52 0 12 := ⟨R_H, T_H, 13, hG.c rfl, by decide, rfl, fun w h => hG.u h (tw_H w h), Or.inl (hG.t (lm_1 (List.mem_of_getElem? (i := 72) rfl)))⟩
theorem c_H_55 {G : px_Cg} (hG : gg G) : px_CW G.Ts "VisitorSteps$House" 55 y_A_fill b_A_fill 4 none 2 := ⟨Or.inl (hG.t (lm_1 (List.mem_of_getElem? (i := 41) rfl))), hG.t (lm_1 (List.mem_of_getElem? (i := 43) rfl)), hG.t (lm_1 (List.mem_of_getElem? (i := 4) rfl)), ⟨by decide, by decide⟩, by decide +kernel⟩
theorem c_H_61 {G : px_Cg} (hG : gg G) : px_CW G.Ts "VisitorSteps$House" 61 y_H_isGoal b_H_isGoal 2 (some FieldType.boolean) 1 := ⟨Or.inl (hG.t (lm_2 (List.mem_of_getElem? (i := 184) rfl))), hG.t (lm_2 (List.mem_of_getElem? (i := 38) rfl)), hG.t (lm_1 (List.mem_of_getElem? (i := 2) rfl)), ⟨by decide, by decide⟩, by decide +kernel⟩
theorem i_H_isGoal {G : px_Cg} (hG : gg G) : Cond.instanceMethod y_H_isGoal ∈ G.Ts := hG.t (lm_2 (List.mem_of_getElem? (i := 36) rfl))
theorem v_H_isGoal {G : px_Cg} (hG : gg G) : Cond.selects y_H_isGoal.cls y_H_isGoal y_H_isGoal ∈ G.Ts := hG.t (lm_2 (List.mem_of_getElem? (i := 37) rfl))
theorem c_H_65 {G : px_Cg} (hG : gg G) : px_CW G.Ts "VisitorSteps$House" 65 y_H_measure b_H_measure 8 none 1 := ⟨Or.inl (hG.t (lm_2 (List.mem_of_getElem? (i := 189) rfl))), hG.t (lm_2 (List.mem_of_getElem? (i := 192) rfl)), hG.t (lm_1 (List.mem_of_getElem? (i := 2) rfl)), ⟨by decide, by decide⟩, by decide +kernel⟩
theorem i_H_measure {G : px_Cg} (hG : gg G) : Cond.instanceMethod y_H_measure ∈ G.Ts := hG.t (lm_2 (List.mem_of_getElem? (i := 191) rfl))
theorem v_H_measure {G : px_Cg} (hG : gg G) : Cond.selects y_H_measure.cls y_H_measure y_H_measure ∈ G.Ts := hG.t (lm_0 (List.mem_of_getElem? (i := 14) rfl))
theorem c_H_69 {G : px_Cg} (hG : gg G) : px_CW G.Ts "VisitorSteps$House" 69 y_H_neighbour b_H_neighbour 5 (some FieldType.int) 2 := ⟨Or.inl (hG.t (lm_2 (List.mem_of_getElem? (i := 47) rfl))), hG.t (lm_2 (List.mem_of_getElem? (i := 50) rfl)), hG.t (lm_1 (List.mem_of_getElem? (i := 2) rfl)), ⟨by decide, by decide⟩, by decide +kernel⟩
theorem i_H_neighbour {G : px_Cg} (hG : gg G) : Cond.instanceMethod y_H_neighbour ∈ G.Ts := hG.t (lm_2 (List.mem_of_getElem? (i := 49) rfl))
theorem v_H_neighbour {G : px_Cg} (hG : gg G) : Cond.selects y_H_neighbour.cls y_H_neighbour y_H_neighbour ∈ G.Ts := hG.t (lm_0 (List.mem_of_getElem? (i := 5) rfl))
theorem c_H_79 {G : px_Cg} (hG : gg G) : px_CW G.Ts "VisitorSteps$House" 79 y_H_distanceTo b_H_distanceTo 4 (some FieldType.int) 2 := ⟨Or.inl (hG.t (lm_2 (List.mem_of_getElem? (i := 34) rfl))), hG.t (lm_2 (List.mem_of_getElem? (i := 11) rfl)), hG.t (lm_1 (List.mem_of_getElem? (i := 2) rfl)), ⟨by decide, by decide⟩, by decide +kernel⟩
theorem f_P_9 {G : px_Cg} (hG : gg G) : px_FW G.Ts G.cl "VisitorSteps$Visitor" 9 1 0 := ⟨R_P, T_P, 10, hG.c rfl, by decide, rfl, fun w h => hG.u h (tw_P w h), Or.inl (hG.t (lm_1 (List.mem_of_getElem? (i := 115) rfl)))⟩
theorem f_P_15 {G : px_Cg} (hG : gg G) : px_FW G.Ts G.cl "VisitorSteps$Visitor" 15 1 1 := ⟨R_P, T_P, 10, hG.c rfl, by decide, rfl, fun w h => hG.u h (tw_P w h), Or.inl (hG.t (lm_1 (List.mem_of_getElem? (i := 117) rfl)))⟩
theorem f_P_18 {G : px_Cg} (hG : gg G) : px_FW G.Ts G.cl "VisitorSteps$Visitor" 18 1 2 := ⟨R_P, T_P, 10, hG.c rfl, by decide, rfl, fun w h => hG.u h (tw_P w h), Or.inl (hG.t (lm_1 (List.mem_of_getElem? (i := 119) rfl)))⟩
theorem f_P_21 {G : px_Cg} (hG : gg G) : px_FW G.Ts G.cl "VisitorSteps$Visitor" 21 1 3 := ⟨R_P, T_P, 10, hG.c rfl, by decide, rfl, fun w h => hG.u h (tw_P w h), Or.inl (hG.t (lm_1 (List.mem_of_getElem? (i := 121) rfl)))⟩
theorem f_P_24 {G : px_Cg} (hG : gg G) : px_FW G.Ts G.cl "VisitorSteps$Visitor" 24 1 4 := ⟨R_P, T_P, 10, hG.c rfl, by decide, rfl, fun w h => hG.u h (tw_P w h), Or.inl (hG.t (lm_1 (List.mem_of_getElem? (i := 123) rfl)))⟩
theorem f_P_27 {G : px_Cg} (hG : gg G) : px_FW G.Ts G.cl "VisitorSteps$Visitor" 27 1 5 := ⟨R_P, T_P, 10, hG.c rfl, by decide, rfl, fun w h => hG.u h (tw_P w h), Or.inl (hG.t (lm_1 (List.mem_of_getElem? (i := 126) rfl)))⟩
theorem f_P_30 {G : px_Cg} (hG : gg G) : px_FW G.Ts G.cl "VisitorSteps$Visitor" 30 1 6 := ⟨R_P, T_P, 10, hG.c rfl, by decide, rfl, fun w h => hG.u h (tw_P w h), Or.inl (hG.t (lm_1 (List.mem_of_getElem? (i := 129) rfl)))⟩
theorem f_P_33 {G : px_Cg} (hG : gg G) : px_FW G.Ts G.cl "VisitorSteps$Visitor" 33 1 7 := ⟨R_P, T_P, 10, hG.c rfl, by decide, rfl, fun w h => hG.u h (tw_P w h), Or.inl (hG.t (lm_1 (List.mem_of_getElem? (i := 132) rfl)))⟩
theorem f_P_36 {G : px_Cg} (hG : gg G) : px_FW G.Ts G.cl "VisitorSteps$Visitor" 36 1 8 := ⟨R_P, T_P, 10, hG.c rfl, by decide, rfl, fun w h => hG.u h (tw_P w h), Or.inl (hG.t (lm_1 (List.mem_of_getElem? (i := 134) rfl)))⟩
theorem f_P_39 {G : px_Cg} (hG : gg G) : px_FW G.Ts G.cl "VisitorSteps$Visitor" 39 1 9 := ⟨R_P, T_P, 10, hG.c rfl, by decide, rfl, fun w h => hG.u h (tw_P w h), Or.inl (hG.t (lm_1 (List.mem_of_getElem? (i := 136) rfl)))⟩
theorem c_P_42 {G : px_Cg} (hG : gg G) : px_CW G.Ts "VisitorSteps$Visitor" 42 y_P_turnTo b_P_turnTo 2 none 1 := ⟨Or.inl (hG.t (lm_2 (List.mem_of_getElem? (i := 91) rfl))), hG.t (lm_1 (List.mem_of_getElem? (i := 239) rfl)), hG.t (lm_1 (List.mem_of_getElem? (i := 6) rfl)), ⟨by decide, by decide⟩, by decide +kernel⟩
theorem i_P_turnTo {G : px_Cg} (hG : gg G) : Cond.instanceMethod y_P_turnTo ∈ G.Ts := hG.t (lm_1 (List.mem_of_getElem? (i := 237) rfl))
theorem v_P_turnTo {G : px_Cg} (hG : gg G) : Cond.selects y_P_turnTo.cls y_P_turnTo y_P_turnTo ∈ G.Ts := hG.t (lm_1 (List.mem_of_getElem? (i := 238) rfl))
theorem f_K_11 {G : px_Cg} (hG : gg G) : px_FW G.Ts G.cl "VisitorSteps$Walk" 11 2 1 := ⟨R_K, T_K, 11, hG.c rfl, by decide, rfl, fun w h => hG.u h (tw_K w h), Or.inl (hG.t (lm_1 (List.mem_of_getElem? (i := 161) rfl)))⟩
theorem f_K_17 {G : px_Cg} (hG : gg G) : px_FW G.Ts G.cl "VisitorSteps$Walk" 17 2 4 := ⟨R_K, T_K, 11, hG.c rfl, by decide, rfl, fun w h => hG.u h (tw_K w h), Or.inl (hG.t (lm_1 (List.mem_of_getElem? (i := 167) rfl)))⟩
theorem f_K_21 {G : px_Cg} (hG : gg G) : px_FW G.Ts G.cl "VisitorSteps$Walk" 21 2 5 := ⟨R_K, T_K, 11, hG.c rfl, by decide, rfl, fun w h => hG.u h (tw_K w h), Or.inl (hG.t (lm_1 (List.mem_of_getElem? (i := 169) rfl)))⟩
theorem f_K_24 {G : px_Cg} (hG : gg G) : px_FW G.Ts G.cl "VisitorSteps$Walk" 24 2 6 := ⟨R_K, T_K, 11, hG.c rfl, by decide, rfl, fun w h => hG.u h (tw_K w h), Or.inl (hG.t (lm_1 (List.mem_of_getElem? (i := 171) rfl)))⟩
theorem f_K_28 {G : px_Cg} (hG : gg G) : px_FW G.Ts G.cl "VisitorSteps$Walk" 28 2 7 := ⟨R_K, T_K, 11, hG.c rfl, by decide, rfl, fun w h => hG.u h (tw_K w h), Or.inl (hG.t (lm_1 (List.mem_of_getElem? (i := 173) rfl)))⟩
theorem f_K_31 {G : px_Cg} (hG : gg G) : px_FW G.Ts G.cl "VisitorSteps$Walk" 31 2 8 := ⟨R_K, T_K, 11, hG.c rfl, by decide, rfl, fun w h => hG.u h (tw_K w h), Or.inl (hG.t (lm_1 (List.mem_of_getElem? (i := 175) rfl)))⟩
theorem f_K_34 {G : px_Cg} (hG : gg G) : px_FW G.Ts G.cl "VisitorSteps$Walk" 34 2 9 := ⟨R_K, T_K, 11, hG.c rfl, by decide, rfl, fun w h => hG.u h (tw_K w h), Or.inl (hG.t (lm_1 (List.mem_of_getElem? (i := 177) rfl)))⟩
theorem f_K_37 {G : px_Cg} (hG : gg G) : px_FW G.Ts G.cl "VisitorSteps$Walk" 37 2 10 := ⟨R_K, T_K, 11, hG.c rfl, by decide, rfl, fun w h => hG.u h (tw_K w h), Or.inl (hG.t (lm_1 (List.mem_of_getElem? (i := 179) rfl)))⟩
theorem f_K_41 {G : px_Cg} (hG : gg G) : px_FW G.Ts G.cl "VisitorSteps$Walk" 41 2 0 := ⟨R_K, T_K, 11, hG.c rfl, by decide, rfl, fun w h => hG.u h (tw_K w h), Or.inl (hG.t (lm_1 (List.mem_of_getElem? (i := 160) rfl)))⟩
theorem f_K_45 {G : px_Cg} (hG : gg G) : px_FW G.Ts G.cl "VisitorSteps$Walk" 45 0 3 := ⟨R_H, T_H, 13, hG.c rfl, by decide, rfl, fun w h => hG.u h (tw_H w h), Or.inl (hG.t (lm_1 (List.mem_of_getElem? (i := 50) rfl)))⟩
theorem f_K_51 {G : px_Cg} (hG : gg G) : px_FW G.Ts G.cl "VisitorSteps$Walk" 51 2 2 := ⟨R_K, T_K, 11, hG.c rfl, by decide, rfl, fun w h => hG.u h (tw_K w h), Or.inl (hG.t (lm_1 (List.mem_of_getElem? (i := 163) rfl)))⟩
theorem f_K_54 {G : px_Cg} (hG : gg G) : px_FW G.Ts G.cl "VisitorSteps$Walk" 54 2 3 := ⟨R_K, T_K, 11, hG.c rfl, by decide, rfl, fun w h => hG.u h (tw_K w h), Or.inl (hG.t (lm_1 (List.mem_of_getElem? (i := 165) rfl)))⟩
theorem c_K_57 {G : px_Cg} (hG : gg G) : px_CW G.Ts "VisitorSteps$Walk" 57 y_P_init b_P_init 1 none 0 := ⟨Or.inr ⟨"VisitorSteps", hG.t (lm_1 (List.mem_of_getElem? (i := 111) rfl))⟩, hG.t (lm_1 (List.mem_of_getElem? (i := 113) rfl)), hG.t (lm_1 (List.mem_of_getElem? (i := 6) rfl)), ⟨by decide, by decide⟩, by decide +kernel⟩
theorem i_P_init {G : px_Cg} (hG : gg G) : Cond.instanceMethod y_P_init ∈ G.Ts := hG.t (lm_1 (List.mem_of_getElem? (i := 112) rfl))
theorem f_K_58 {G : px_Cg} (hG : gg G) : px_FW G.Ts G.cl "VisitorSteps$Walk" 58 1 0 := ⟨R_P, T_P, 10, hG.c rfl, by decide, rfl, fun w h => hG.u h (tw_P w h), Or.inl (hG.t (lm_1 (List.mem_of_getElem? (i := 116) rfl)))⟩
theorem f_K_61 {G : px_Cg} (hG : gg G) : px_FW G.Ts G.cl "VisitorSteps$Walk" 61 1 1 := ⟨R_P, T_P, 10, hG.c rfl, by decide, rfl, fun w h => hG.u h (tw_P w h), Or.inl (hG.t (lm_1 (List.mem_of_getElem? (i := 118) rfl)))⟩
theorem f_K_64 {G : px_Cg} (hG : gg G) : px_FW G.Ts G.cl "VisitorSteps$Walk" 64 1 2 := ⟨R_P, T_P, 10, hG.c rfl, by decide, rfl, fun w h => hG.u h (tw_P w h), Or.inl (hG.t (lm_1 (List.mem_of_getElem? (i := 120) rfl)))⟩
theorem c_K_67 {G : px_Cg} (hG : gg G) : px_CW G.Ts "VisitorSteps$Walk" 67 y_K_keyOf b_K_keyOf 3 (some FieldType.int) 1 := ⟨Or.inl (hG.t (lm_3 (List.mem_of_getElem? (i := 44) rfl))), hG.t (lm_3 (List.mem_of_getElem? (i := 47) rfl)), hG.t (lm_1 (List.mem_of_getElem? (i := 5) rfl)), ⟨by decide, by decide⟩, by decide +kernel⟩
theorem i_K_keyOf {G : px_Cg} (hG : gg G) : Cond.instanceMethod y_K_keyOf ∈ G.Ts := hG.t (lm_3 (List.mem_of_getElem? (i := 46) rfl))
theorem v_K_keyOf {G : px_Cg} (hG : gg G) : Cond.selects y_K_keyOf.cls y_K_keyOf y_K_keyOf ∈ G.Ts := hG.t (lm_0 (List.mem_of_getElem? (i := 16) rfl))
theorem f_K_71 {G : px_Cg} (hG : gg G) : px_FW G.Ts G.cl "VisitorSteps$Walk" 71 1 3 := ⟨R_P, T_P, 10, hG.c rfl, by decide, rfl, fun w h => hG.u h (tw_P w h), Or.inl (hG.t (lm_1 (List.mem_of_getElem? (i := 122) rfl)))⟩
theorem c_K_74 {G : px_Cg} (hG : gg G) : px_CW G.Ts "VisitorSteps$Walk" 74 y_P_copyFrom b_P_copyFrom 2 none 1 := ⟨Or.inl (hG.t (lm_1 (List.mem_of_getElem? (i := 225) rfl))), hG.t (lm_1 (List.mem_of_getElem? (i := 228) rfl)), hG.t (lm_1 (List.mem_of_getElem? (i := 6) rfl)), ⟨by decide, by decide⟩, by decide +kernel⟩
theorem i_P_copyFrom {G : px_Cg} (hG : gg G) : Cond.instanceMethod y_P_copyFrom ∈ G.Ts := hG.t (lm_1 (List.mem_of_getElem? (i := 226) rfl))
theorem v_P_copyFrom {G : px_Cg} (hG : gg G) : Cond.selects y_P_copyFrom.cls y_P_copyFrom y_P_copyFrom ∈ G.Ts := hG.t (lm_1 (List.mem_of_getElem? (i := 227) rfl))
theorem c_K_84 {G : px_Cg} (hG : gg G) : px_CW G.Ts "VisitorSteps$Walk" 84 y_P_goBackToStart b_P_goBackToStart 1 none 0 := ⟨Or.inl (hG.t (lm_2 (List.mem_of_getElem? (i := 87) rfl))), hG.t (lm_2 (List.mem_of_getElem? (i := 90) rfl)), hG.t (lm_1 (List.mem_of_getElem? (i := 6) rfl)), ⟨by decide, by decide⟩, by decide +kernel⟩
theorem i_P_goBackToStart {G : px_Cg} (hG : gg G) : Cond.instanceMethod y_P_goBackToStart ∈ G.Ts := hG.t (lm_2 (List.mem_of_getElem? (i := 88) rfl))
theorem v_P_goBackToStart {G : px_Cg} (hG : gg G) : Cond.selects y_P_goBackToStart.cls y_P_goBackToStart y_P_goBackToStart ∈ G.Ts := hG.t (lm_2 (List.mem_of_getElem? (i := 89) rfl))
theorem c_K_87 {G : px_Cg} (hG : gg G) : px_CW G.Ts "VisitorSteps$Walk" 87 y_A_fill b_A_fill 4 none 2 := ⟨Or.inl (hG.t (lm_2 (List.mem_of_getElem? (i := 92) rfl))), hG.t (lm_1 (List.mem_of_getElem? (i := 43) rfl)), hG.t (lm_1 (List.mem_of_getElem? (i := 4) rfl)), ⟨by decide, by decide⟩, by decide +kernel⟩
theorem c_K_93 {G : px_Cg} (hG : gg G) : px_CW G.Ts "VisitorSteps$Walk" 93 y_P_turnTo b_P_turnTo 2 none 1 := ⟨Or.inl (hG.t (lm_1 (List.mem_of_getElem? (i := 236) rfl))), hG.t (lm_1 (List.mem_of_getElem? (i := 239) rfl)), hG.t (lm_1 (List.mem_of_getElem? (i := 6) rfl)), ⟨by decide, by decide⟩, by decide +kernel⟩
theorem f_K_97 {G : px_Cg} (hG : gg G) : px_FW G.Ts G.cl "VisitorSteps$Walk" 97 1 4 := ⟨R_P, T_P, 10, hG.c rfl, by decide, rfl, fun w h => hG.u h (tw_P w h), Or.inl (hG.t (lm_1 (List.mem_of_getElem? (i := 124) rfl)))⟩
theorem c_K_100 {G : px_Cg} (hG : gg G) : px_CW G.Ts "VisitorSteps$Walk" 100 y_K_goOn b_K_goOn 2 none 1 := ⟨Or.inl (hG.t (lm_2 (List.mem_of_getElem? (i := 4) rfl))), hG.t (lm_2 (List.mem_of_getElem? (i := 7) rfl)), hG.t (lm_1 (List.mem_of_getElem? (i := 5) rfl)), ⟨by decide, by decide⟩, by decide +kernel⟩
theorem i_K_goOn {G : px_Cg} (hG : gg G) : Cond.instanceMethod y_K_goOn ∈ G.Ts := hG.t (lm_2 (List.mem_of_getElem? (i := 6) rfl))
theorem v_K_goOn {G : px_Cg} (hG : gg G) : Cond.selects y_K_goOn.cls y_K_goOn y_K_goOn ∈ G.Ts := hG.t (lm_0 (List.mem_of_getElem? (i := 0) rfl))
theorem c_K_103 {G : px_Cg} (hG : gg G) : px_CW G.Ts "VisitorSteps$Walk" 103 y_K_comeIn b_K_comeIn 3 none 1 := ⟨Or.inl (hG.t (lm_2 (List.mem_of_getElem? (i := 71) rfl))), hG.t (lm_2 (List.mem_of_getElem? (i := 74) rfl)), hG.t (lm_1 (List.mem_of_getElem? (i := 5) rfl)), ⟨by decide, by decide⟩, by decide +kernel⟩
theorem i_K_comeIn {G : px_Cg} (hG : gg G) : Cond.instanceMethod y_K_comeIn ∈ G.Ts := hG.t (lm_2 (List.mem_of_getElem? (i := 73) rfl))
theorem v_K_comeIn {G : px_Cg} (hG : gg G) : Cond.selects y_K_comeIn.cls y_K_comeIn y_K_comeIn ∈ G.Ts := hG.t (lm_0 (List.mem_of_getElem? (i := 10) rfl))
theorem f_K_106 {G : px_Cg} (hG : gg G) : px_FW G.Ts G.cl "VisitorSteps$Walk" 106 1 5 := ⟨R_P, T_P, 10, hG.c rfl, by decide, rfl, fun w h => hG.u h (tw_P w h), Or.inl (hG.t (lm_1 (List.mem_of_getElem? (i := 127) rfl)))⟩
theorem f_K_109 {G : px_Cg} (hG : gg G) : px_FW G.Ts G.cl "VisitorSteps$Walk" 109 0 9 := ⟨R_H, T_H, 13, hG.c rfl, by decide, rfl, fun w h => hG.u h (tw_H w h), Or.inl (hG.t (lm_1 (List.mem_of_getElem? (i := 67) rfl)))⟩
theorem f_K_112 {G : px_Cg} (hG : gg G) : px_FW G.Ts G.cl "VisitorSteps$Walk" 112 0 4 := ⟨R_H, T_H, 13, hG.c rfl, by decide, rfl, fun w h => hG.u h (tw_H w h), Or.inl (hG.t (lm_1 (List.mem_of_getElem? (i := 54) rfl)))⟩
theorem c_K_115 {G : px_Cg} (hG : gg G) : px_CW G.Ts "VisitorSteps$Walk" 115 y_K_hasRoom b_K_hasRoom 2 (some FieldType.boolean) 1 := ⟨Or.inl (hG.t (lm_2 (List.mem_of_getElem? (i := 55) rfl))), hG.t (lm_2 (List.mem_of_getElem? (i := 58) rfl)), hG.t (lm_1 (List.mem_of_getElem? (i := 5) rfl)), ⟨by decide, by decide⟩, by decide +kernel⟩
theorem i_K_hasRoom {G : px_Cg} (hG : gg G) : Cond.instanceMethod y_K_hasRoom ∈ G.Ts := hG.t (lm_2 (List.mem_of_getElem? (i := 57) rfl))
theorem v_K_hasRoom {G : px_Cg} (hG : gg G) : Cond.selects y_K_hasRoom.cls y_K_hasRoom y_K_hasRoom ∈ G.Ts := hG.t (lm_0 (List.mem_of_getElem? (i := 6) rfl))
theorem f_K_119 {G : px_Cg} (hG : gg G) : px_FW G.Ts G.cl "VisitorSteps$Walk" 119 1 6 := ⟨R_P, T_P, 10, hG.c rfl, by decide, rfl, fun w h => hG.u h (tw_P w h), Or.inl (hG.t (lm_1 (List.mem_of_getElem? (i := 131) rfl)))⟩
theorem c_K_122 {G : px_Cg} (hG : gg G) : px_CW G.Ts "VisitorSteps$Walk" 122 y_H_distanceTo b_H_distanceTo 4 (some FieldType.int) 2 := ⟨Or.inl (hG.t (lm_2 (List.mem_of_getElem? (i := 8) rfl))), hG.t (lm_2 (List.mem_of_getElem? (i := 11) rfl)), hG.t (lm_1 (List.mem_of_getElem? (i := 2) rfl)), ⟨by decide, by decide⟩, by decide +kernel⟩
theorem c_K_126 {G : px_Cg} (hG : gg G) : px_CW G.Ts "VisitorSteps$Walk" 126 y_K_choose b_K_choose 3 (some FieldType.int) 1 := ⟨Or.inl (hG.t (lm_2 (List.mem_of_getElem? (i := 12) rfl))), hG.t (lm_2 (List.mem_of_getElem? (i := 15) rfl)), hG.t (lm_1 (List.mem_of_getElem? (i := 5) rfl)), ⟨by decide, by decide⟩, by decide +kernel⟩
theorem i_K_choose {G : px_Cg} (hG : gg G) : Cond.instanceMethod y_K_choose ∈ G.Ts := hG.t (lm_2 (List.mem_of_getElem? (i := 14) rfl))
theorem v_K_choose {G : px_Cg} (hG : gg G) : Cond.selects y_K_choose.cls y_K_choose y_K_choose ∈ G.Ts := hG.t (lm_0 (List.mem_of_getElem? (i := 1) rfl))
theorem c_K_130 {G : px_Cg} (hG : gg G) : px_CW G.Ts "VisitorSteps$Walk" 130 y_H_isGoal b_H_isGoal 2 (some FieldType.boolean) 1 := ⟨Or.inl (hG.t (lm_2 (List.mem_of_getElem? (i := 35) rfl))), hG.t (lm_2 (List.mem_of_getElem? (i := 38) rfl)), hG.t (lm_1 (List.mem_of_getElem? (i := 2) rfl)), ⟨by decide, by decide⟩, by decide +kernel⟩
theorem c_K_133 {G : px_Cg} (hG : gg G) : px_CW G.Ts "VisitorSteps$Walk" 133 y_K_step b_K_step 3 none 1 := ⟨Or.inl (hG.t (lm_2 (List.mem_of_getElem? (i := 39) rfl))), hG.t (lm_2 (List.mem_of_getElem? (i := 42) rfl)), hG.t (lm_1 (List.mem_of_getElem? (i := 5) rfl)), ⟨by decide, by decide⟩, by decide +kernel⟩
theorem i_K_step {G : px_Cg} (hG : gg G) : Cond.instanceMethod y_K_step ∈ G.Ts := hG.t (lm_2 (List.mem_of_getElem? (i := 41) rfl))
theorem v_K_step {G : px_Cg} (hG : gg G) : Cond.selects y_K_step.cls y_K_step y_K_step ∈ G.Ts := hG.t (lm_0 (List.mem_of_getElem? (i := 4) rfl))
theorem c_K_136 {G : px_Cg} (hG : gg G) : px_CW G.Ts "VisitorSteps$Walk" 136 y_K_goOut b_K_goOut 2 none 1 := ⟨Or.inl (hG.t (lm_2 (List.mem_of_getElem? (i := 59) rfl))), hG.t (lm_2 (List.mem_of_getElem? (i := 62) rfl)), hG.t (lm_1 (List.mem_of_getElem? (i := 5) rfl)), ⟨by decide, by decide⟩, by decide +kernel⟩
theorem i_K_goOut {G : px_Cg} (hG : gg G) : Cond.instanceMethod y_K_goOut ∈ G.Ts := hG.t (lm_2 (List.mem_of_getElem? (i := 61) rfl))
theorem v_K_goOut {G : px_Cg} (hG : gg G) : Cond.selects y_K_goOut.cls y_K_goOut y_K_goOut ∈ G.Ts := hG.t (lm_0 (List.mem_of_getElem? (i := 7) rfl))
theorem c_K_139 {G : px_Cg} (hG : gg G) : px_CW G.Ts "VisitorSteps$Walk" 139 y_K_look b_K_look 2 none 1 := ⟨Or.inl (hG.t (lm_2 (List.mem_of_getElem? (i := 63) rfl))), hG.t (lm_2 (List.mem_of_getElem? (i := 66) rfl)), hG.t (lm_1 (List.mem_of_getElem? (i := 5) rfl)), ⟨by decide, by decide⟩, by decide +kernel⟩
theorem i_K_look {G : px_Cg} (hG : gg G) : Cond.instanceMethod y_K_look ∈ G.Ts := hG.t (lm_2 (List.mem_of_getElem? (i := 65) rfl))
theorem v_K_look {G : px_Cg} (hG : gg G) : Cond.selects y_K_look.cls y_K_look y_K_look ∈ G.Ts := hG.t (lm_0 (List.mem_of_getElem? (i := 8) rfl))
theorem c_K_142 {G : px_Cg} (hG : gg G) : px_CW G.Ts "VisitorSteps$Walk" 142 y_H_cellOneNearer b_H_cellOneNearer 6 (some FieldType.int) 2 := ⟨Or.inl (hG.t (lm_2 (List.mem_of_getElem? (i := 43) rfl))), hG.t (lm_2 (List.mem_of_getElem? (i := 46) rfl)), hG.t (lm_1 (List.mem_of_getElem? (i := 2) rfl)), ⟨by decide, by decide⟩, by decide +kernel⟩
theorem i_H_cellOneNearer {G : px_Cg} (hG : gg G) : Cond.instanceMethod y_H_cellOneNearer ∈ G.Ts := hG.t (lm_2 (List.mem_of_getElem? (i := 44) rfl))
theorem v_H_cellOneNearer {G : px_Cg} (hG : gg G) : Cond.selects y_H_cellOneNearer.cls y_H_cellOneNearer y_H_cellOneNearer ∈ G.Ts := hG.t (lm_2 (List.mem_of_getElem? (i := 45) rfl))
theorem f_K_145 {G : px_Cg} (hG : gg G) : px_FW G.Ts G.cl "VisitorSteps$Walk" 145 1 7 := ⟨R_P, T_P, 10, hG.c rfl, by decide, rfl, fun w h => hG.u h (tw_P w h), Or.inl (hG.t (lm_1 (List.mem_of_getElem? (i := 133) rfl)))⟩
theorem f_K_148 {G : px_Cg} (hG : gg G) : px_FW G.Ts G.cl "VisitorSteps$Walk" 148 0 6 := ⟨R_H, T_H, 13, hG.c rfl, by decide, rfl, fun w h => hG.u h (tw_H w h), Or.inl (hG.t (lm_1 (List.mem_of_getElem? (i := 59) rfl)))⟩
theorem c_K_151 {G : px_Cg} (hG : gg G) : px_CW G.Ts "VisitorSteps$Walk" 151 y_K_groupIsDoneWith b_K_groupIsDoneWith 5 (some FieldType.boolean) 1 := ⟨Or.inl (hG.t (lm_2 (List.mem_of_getElem? (i := 67) rfl))), hG.t (lm_2 (List.mem_of_getElem? (i := 70) rfl)), hG.t (lm_1 (List.mem_of_getElem? (i := 5) rfl)), ⟨by decide, by decide⟩, by decide +kernel⟩
theorem i_K_groupIsDoneWith {G : px_Cg} (hG : gg G) : Cond.instanceMethod y_K_groupIsDoneWith ∈ G.Ts := hG.t (lm_2 (List.mem_of_getElem? (i := 69) rfl))
theorem v_K_groupIsDoneWith {G : px_Cg} (hG : gg G) : Cond.selects y_K_groupIsDoneWith.cls y_K_groupIsDoneWith y_K_groupIsDoneWith ∈ G.Ts := hG.t (lm_0 (List.mem_of_getElem? (i := 9) rfl))
theorem f_K_155 {G : px_Cg} (hG : gg G) : px_FW G.Ts G.cl "VisitorSteps$Walk" 155 1 8 := ⟨R_P, T_P, 10, hG.c rfl, by decide, rfl, fun w h => hG.u h (tw_P w h), Or.inl (hG.t (lm_1 (List.mem_of_getElem? (i := 135) rfl)))⟩
theorem f_K_158 {G : px_Cg} (hG : gg G) : px_FW G.Ts G.cl "VisitorSteps$Walk" 158 1 9 := ⟨R_P, T_P, 10, hG.c rfl, by decide, rfl, fun w h => hG.u h (tw_P w h), Or.inl (hG.t (lm_1 (List.mem_of_getElem? (i := 138) rfl)))⟩
theorem c_K_161 {G : px_Cg} (hG : gg G) : px_CW G.Ts "VisitorSteps$Walk" 161 y_P_hasSeen b_P_hasSeen 2 (some FieldType.boolean) 1 := ⟨Or.inl (hG.t (lm_2 (List.mem_of_getElem? (i := 20) rfl))), hG.t (lm_2 (List.mem_of_getElem? (i := 23) rfl)), hG.t (lm_1 (List.mem_of_getElem? (i := 6) rfl)), ⟨by decide, by decide⟩, by decide +kernel⟩
theorem i_P_hasSeen {G : px_Cg} (hG : gg G) : Cond.instanceMethod y_P_hasSeen ∈ G.Ts := hG.t (lm_2 (List.mem_of_getElem? (i := 21) rfl))
theorem v_P_hasSeen {G : px_Cg} (hG : gg G) : Cond.selects y_P_hasSeen.cls y_P_hasSeen y_P_hasSeen ∈ G.Ts := hG.t (lm_2 (List.mem_of_getElem? (i := 22) rfl))
theorem f_K_164 {G : px_Cg} (hG : gg G) : px_FW G.Ts G.cl "VisitorSteps$Walk" 164 0 10 := ⟨R_H, T_H, 13, hG.c rfl, by decide, rfl, fun w h => hG.u h (tw_H w h), Or.inl (hG.t (lm_1 (List.mem_of_getElem? (i := 70) rfl)))⟩
theorem c_K_167 {G : px_Cg} (hG : gg G) : px_CW G.Ts "VisitorSteps$Walk" 167 y_K_chooseThing b_K_chooseThing 6 (some FieldType.int) 1 := ⟨Or.inl (hG.t (lm_2 (List.mem_of_getElem? (i := 16) rfl))), hG.t (lm_2 (List.mem_of_getElem? (i := 19) rfl)), hG.t (lm_1 (List.mem_of_getElem? (i := 5) rfl)), ⟨by decide, by decide⟩, by decide +kernel⟩
theorem i_K_chooseThing {G : px_Cg} (hG : gg G) : Cond.instanceMethod y_K_chooseThing ∈ G.Ts := hG.t (lm_2 (List.mem_of_getElem? (i := 18) rfl))
theorem v_K_chooseThing {G : px_Cg} (hG : gg G) : Cond.selects y_K_chooseThing.cls y_K_chooseThing y_K_chooseThing ∈ G.Ts := hG.t (lm_0 (List.mem_of_getElem? (i := 2) rfl))
theorem c_K_170 {G : px_Cg} (hG : gg G) : px_CW G.Ts "VisitorSteps$Walk" 170 y_H_nearestDoor b_H_nearestDoor 6 (some FieldType.int) 1 := ⟨Or.inl (hG.t (lm_2 (List.mem_of_getElem? (i := 29) rfl))), hG.t (lm_2 (List.mem_of_getElem? (i := 32) rfl)), hG.t (lm_1 (List.mem_of_getElem? (i := 2) rfl)), ⟨by decide, by decide⟩, by decide +kernel⟩
theorem i_H_nearestDoor {G : px_Cg} (hG : gg G) : Cond.instanceMethod y_H_nearestDoor ∈ G.Ts := hG.t (lm_2 (List.mem_of_getElem? (i := 30) rfl))
theorem v_H_nearestDoor {G : px_Cg} (hG : gg G) : Cond.selects y_H_nearestDoor.cls y_H_nearestDoor y_H_nearestDoor ∈ G.Ts := hG.t (lm_2 (List.mem_of_getElem? (i := 31) rfl))
theorem f_K_173 {G : px_Cg} (hG : gg G) : px_FW G.Ts G.cl "VisitorSteps$Walk" 173 0 7 := ⟨R_H, T_H, 13, hG.c rfl, by decide, rfl, fun w h => hG.u h (tw_H w h), Or.inl (hG.t (lm_1 (List.mem_of_getElem? (i := 62) rfl)))⟩
theorem f_K_176 {G : px_Cg} (hG : gg G) : px_FW G.Ts G.cl "VisitorSteps$Walk" 176 0 5 := ⟨R_H, T_H, 13, hG.c rfl, by decide, rfl, fun w h => hG.u h (tw_H w h), Or.inl (hG.t (lm_1 (List.mem_of_getElem? (i := 56) rfl)))⟩
theorem c_K_179 {G : px_Cg} (hG : gg G) : px_CW G.Ts "VisitorSteps$Walk" 179 y_K_luck b_K_luck 4 (some FieldType.int) 1 := ⟨Or.inl (hG.t (lm_2 (List.mem_of_getElem? (i := 24) rfl))), hG.t (lm_2 (List.mem_of_getElem? (i := 27) rfl)), hG.t (lm_1 (List.mem_of_getElem? (i := 5) rfl)), ⟨by decide, by decide⟩, by decide +kernel⟩
theorem i_K_luck {G : px_Cg} (hG : gg G) : Cond.instanceMethod y_K_luck ∈ G.Ts := hG.t (lm_2 (List.mem_of_getElem? (i := 26) rfl))
theorem v_K_luck {G : px_Cg} (hG : gg G) : Cond.selects y_K_luck.cls y_K_luck y_K_luck ∈ G.Ts := hG.t (lm_0 (List.mem_of_getElem? (i := 3) rfl))
theorem f_K_182 {G : px_Cg} (hG : gg G) : px_FW G.Ts G.cl "VisitorSteps$Walk" 182 0 2 := ⟨R_H, T_H, 13, hG.c rfl, by decide, rfl, fun w h => hG.u h (tw_H w h), Or.inl (hG.t (lm_1 (List.mem_of_getElem? (i := 49) rfl)))⟩
theorem c_L_7 {G : px_Cg} (hG : gg G) : px_CW G.Ts "VisitorStepsLaw" 7 y_V_wall b_V_wall 5 (some FieldType.boolean) 3 := ⟨Or.inl (hG.t (lm_2 (List.mem_of_getElem? (i := 104) rfl))), hG.t (lm_2 (List.mem_of_getElem? (i := 107) rfl)), hG.t (lm_1 (List.mem_of_getElem? (i := 1) rfl)), ⟨by decide, by decide⟩, by decide +kernel⟩
theorem i_V_wall {G : px_Cg} (hG : gg G) : Cond.instanceMethod y_V_wall ∈ G.Ts := hG.t (lm_2 (List.mem_of_getElem? (i := 105) rfl))
theorem v_V_wall {G : px_Cg} (hG : gg G) : Cond.selects y_V_wall.cls y_V_wall y_V_wall ∈ G.Ts := hG.t (lm_2 (List.mem_of_getElem? (i := 106) rfl))
theorem c_L_15 {G : px_Cg} (hG : gg G) : px_CW G.Ts "VisitorStepsLaw" 15 y_V_thing b_V_thing 6 (some FieldType.int) 4 := ⟨Or.inl (hG.t (lm_2 (List.mem_of_getElem? (i := 198) rfl))), hG.t (lm_2 (List.mem_of_getElem? (i := 201) rfl)), hG.t (lm_1 (List.mem_of_getElem? (i := 1) rfl)), ⟨by decide, by decide⟩, by decide +kernel⟩
theorem i_V_thing {G : px_Cg} (hG : gg G) : Cond.instanceMethod y_V_thing ∈ G.Ts := hG.t (lm_2 (List.mem_of_getElem? (i := 199) rfl))
theorem v_V_thing {G : px_Cg} (hG : gg G) : Cond.selects y_V_thing.cls y_V_thing y_V_thing ∈ G.Ts := hG.t (lm_2 (List.mem_of_getElem? (i := 200) rfl))
theorem c_L_23 {G : px_Cg} (hG : gg G) : px_CW G.Ts "VisitorStepsLaw" 23 y_V_door b_V_door 4 (some FieldType.int) 2 := ⟨Or.inl (hG.t (lm_3 (List.mem_of_getElem? (i := 1) rfl))), hG.t (lm_3 (List.mem_of_getElem? (i := 4) rfl)), hG.t (lm_1 (List.mem_of_getElem? (i := 1) rfl)), ⟨by decide, by decide⟩, by decide +kernel⟩
theorem i_V_door {G : px_Cg} (hG : gg G) : Cond.instanceMethod y_V_door ∈ G.Ts := hG.t (lm_3 (List.mem_of_getElem? (i := 2) rfl))
theorem v_V_door {G : px_Cg} (hG : gg G) : Cond.selects y_V_door.cls y_V_door y_V_door ∈ G.Ts := hG.t (lm_3 (List.mem_of_getElem? (i := 3) rfl))
theorem c_L_27 {G : px_Cg} (hG : gg G) : px_CW G.Ts "VisitorStepsLaw" 27 y_V_room b_V_room 3 (some FieldType.int) 1 := ⟨Or.inl (hG.t (lm_3 (List.mem_of_getElem? (i := 13) rfl))), hG.t (lm_3 (List.mem_of_getElem? (i := 16) rfl)), hG.t (lm_1 (List.mem_of_getElem? (i := 1) rfl)), ⟨by decide, by decide⟩, by decide +kernel⟩
theorem i_V_room {G : px_Cg} (hG : gg G) : Cond.instanceMethod y_V_room ∈ G.Ts := hG.t (lm_3 (List.mem_of_getElem? (i := 14) rfl))
theorem v_V_room {G : px_Cg} (hG : gg G) : Cond.selects y_V_room.cls y_V_room y_V_room ∈ G.Ts := hG.t (lm_3 (List.mem_of_getElem? (i := 15) rfl))
theorem c_L_31 {G : px_Cg} (hG : gg G) : px_CW G.Ts "VisitorStepsLaw" 31 y_V_patience b_V_patience 3 (some FieldType.int) 1 := ⟨Or.inl (hG.t (lm_3 (List.mem_of_getElem? (i := 21) rfl))), hG.t (lm_3 (List.mem_of_getElem? (i := 24) rfl)), hG.t (lm_1 (List.mem_of_getElem? (i := 1) rfl)), ⟨by decide, by decide⟩, by decide +kernel⟩
theorem i_V_patience {G : px_Cg} (hG : gg G) : Cond.instanceMethod y_V_patience ∈ G.Ts := hG.t (lm_3 (List.mem_of_getElem? (i := 22) rfl))
theorem v_V_patience {G : px_Cg} (hG : gg G) : Cond.selects y_V_patience.cls y_V_patience y_V_patience ∈ G.Ts := hG.t (lm_3 (List.mem_of_getElem? (i := 23) rfl))
theorem c_L_34 {G : px_Cg} (hG : gg G) : px_CW G.Ts "VisitorStepsLaw" 34 y_V_arrives b_V_arrives 5 (some FieldType.int) 3 := ⟨Or.inl (hG.t (lm_3 (List.mem_of_getElem? (i := 29) rfl))), hG.t (lm_3 (List.mem_of_getElem? (i := 32) rfl)), hG.t (lm_1 (List.mem_of_getElem? (i := 1) rfl)), ⟨by decide, by decide⟩, by decide +kernel⟩
theorem i_V_arrives {G : px_Cg} (hG : gg G) : Cond.instanceMethod y_V_arrives ∈ G.Ts := hG.t (lm_3 (List.mem_of_getElem? (i := 30) rfl))
theorem v_V_arrives {G : px_Cg} (hG : gg G) : Cond.selects y_V_arrives.cls y_V_arrives y_V_arrives ∈ G.Ts := hG.t (lm_3 (List.mem_of_getElem? (i := 31) rfl))
theorem c_L_38 {G : px_Cg} (hG : gg G) : px_CW G.Ts "VisitorStepsLaw" 38 y_V_run b_V_run 3 (some FieldType.int) 1 := ⟨Or.inl (hG.t (lm_3 (List.mem_of_getElem? (i := 51) rfl))), hG.t (lm_3 (List.mem_of_getElem? (i := 54) rfl)), hG.t (lm_1 (List.mem_of_getElem? (i := 1) rfl)), ⟨by decide, by decide⟩, by decide +kernel⟩
theorem i_V_run {G : px_Cg} (hG : gg G) : Cond.instanceMethod y_V_run ∈ G.Ts := hG.t (lm_3 (List.mem_of_getElem? (i := 52) rfl))
theorem v_V_run {G : px_Cg} (hG : gg G) : Cond.selects y_V_run.cls y_V_run y_V_run ∈ G.Ts := hG.t (lm_3 (List.mem_of_getElem? (i := 53) rfl))
theorem c_L_41 {G : px_Cg} (hG : gg G) : px_CW G.Ts "VisitorStepsLaw" 41 y_V_at b_V_at 4 (some FieldType.int) 2 := ⟨Or.inl (hG.t (lm_3 (List.mem_of_getElem? (i := 59) rfl))), hG.t (lm_3 (List.mem_of_getElem? (i := 62) rfl)), hG.t (lm_1 (List.mem_of_getElem? (i := 1) rfl)), ⟨by decide, by decide⟩, by decide +kernel⟩
theorem i_V_at {G : px_Cg} (hG : gg G) : Cond.instanceMethod y_V_at ∈ G.Ts := hG.t (lm_3 (List.mem_of_getElem? (i := 60) rfl))
theorem v_V_at {G : px_Cg} (hG : gg G) : Cond.selects y_V_at.cls y_V_at y_V_at ∈ G.Ts := hG.t (lm_3 (List.mem_of_getElem? (i := 61) rfl))
theorem c_L_44 {G : px_Cg} (hG : gg G) : px_CW G.Ts "VisitorStepsLaw" 44 y_V_about b_V_about 4 (some FieldType.int) 2 := ⟨Or.inl (hG.t (lm_3 (List.mem_of_getElem? (i := 72) rfl))), hG.t (lm_3 (List.mem_of_getElem? (i := 75) rfl)), hG.t (lm_1 (List.mem_of_getElem? (i := 1) rfl)), ⟨by decide, by decide⟩, by decide +kernel⟩
theorem i_V_about {G : px_Cg} (hG : gg G) : Cond.instanceMethod y_V_about ∈ G.Ts := hG.t (lm_3 (List.mem_of_getElem? (i := 73) rfl))
theorem v_V_about {G : px_Cg} (hG : gg G) : Cond.selects y_V_about.cls y_V_about y_V_about ∈ G.Ts := hG.t (lm_3 (List.mem_of_getElem? (i := 74) rfl))
theorem c_L_47 {G : px_Cg} (hG : gg G) : px_CW G.Ts "VisitorStepsLaw" 47 y_V_crowd b_V_crowd 3 (some FieldType.int) 2 := ⟨Or.inl (hG.t (lm_3 (List.mem_of_getElem? (i := 80) rfl))), hG.t (lm_3 (List.mem_of_getElem? (i := 83) rfl)), hG.t (lm_1 (List.mem_of_getElem? (i := 1) rfl)), ⟨by decide, by decide⟩, by decide +kernel⟩
theorem i_V_crowd {G : px_Cg} (hG : gg G) : Cond.instanceMethod y_V_crowd ∈ G.Ts := hG.t (lm_3 (List.mem_of_getElem? (i := 81) rfl))
theorem v_V_crowd {G : px_Cg} (hG : gg G) : Cond.selects y_V_crowd.cls y_V_crowd y_V_crowd ∈ G.Ts := hG.t (lm_3 (List.mem_of_getElem? (i := 82) rfl))
theorem c_L_50 {G : px_Cg} (hG : gg G) : px_CW G.Ts "VisitorStepsLaw" 50 y_V_stayed b_V_stayed 3 (some FieldType.int) 2 := ⟨Or.inl (hG.t (lm_3 (List.mem_of_getElem? (i := 87) rfl))), hG.t (lm_3 (List.mem_of_getElem? (i := 90) rfl)), hG.t (lm_1 (List.mem_of_getElem? (i := 1) rfl)), ⟨by decide, by decide⟩, by decide +kernel⟩
theorem i_V_stayed {G : px_Cg} (hG : gg G) : Cond.instanceMethod y_V_stayed ∈ G.Ts := hG.t (lm_3 (List.mem_of_getElem? (i := 88) rfl))
theorem v_V_stayed {G : px_Cg} (hG : gg G) : Cond.selects y_V_stayed.cls y_V_stayed y_V_stayed ∈ G.Ts := hG.t (lm_3 (List.mem_of_getElem? (i := 89) rfl))
theorem c_L_53 {G : px_Cg} (hG : gg G) : px_CW G.Ts "VisitorStepsLaw" 53 y_V_through b_V_through 4 (some FieldType.int) 2 := ⟨Or.inl (hG.t (lm_3 (List.mem_of_getElem? (i := 94) rfl))), hG.t (lm_3 (List.mem_of_getElem? (i := 97) rfl)), hG.t (lm_1 (List.mem_of_getElem? (i := 1) rfl)), ⟨by decide, by decide⟩, by decide +kernel⟩
theorem i_V_through {G : px_Cg} (hG : gg G) : Cond.instanceMethod y_V_through ∈ G.Ts := hG.t (lm_3 (List.mem_of_getElem? (i := 95) rfl))
theorem v_V_through {G : px_Cg} (hG : gg G) : Cond.selects y_V_through.cls y_V_through y_V_through ∈ G.Ts := hG.t (lm_3 (List.mem_of_getElem? (i := 96) rfl))
theorem c_L_57 {G : px_Cg} (hG : gg G) : px_CW G.Ts "VisitorStepsLaw" 57 y_V_seen b_V_seen 2 (some FieldType.int) 1 := ⟨Or.inl (hG.t (lm_3 (List.mem_of_getElem? (i := 101) rfl))), hG.t (lm_3 (List.mem_of_getElem? (i := 104) rfl)), hG.t (lm_1 (List.mem_of_getElem? (i := 1) rfl)), ⟨by decide, by decide⟩, by decide +kernel⟩
theorem i_V_seen {G : px_Cg} (hG : gg G) : Cond.instanceMethod y_V_seen ∈ G.Ts := hG.t (lm_3 (List.mem_of_getElem? (i := 102) rfl))
theorem v_V_seen {G : px_Cg} (hG : gg G) : Cond.selects y_V_seen.cls y_V_seen y_V_seen ∈ G.Ts := hG.t (lm_3 (List.mem_of_getElem? (i := 103) rfl))
theorem c_L_60 {G : px_Cg} (hG : gg G) : px_CW G.Ts "VisitorStepsLaw" 60 y_V_far b_V_far 6 (some FieldType.int) 3 := ⟨Or.inl (hG.t (lm_3 (List.mem_of_getElem? (i := 113) rfl))), hG.t (lm_3 (List.mem_of_getElem? (i := 116) rfl)), hG.t (lm_1 (List.mem_of_getElem? (i := 1) rfl)), ⟨by decide, by decide⟩, by decide +kernel⟩
theorem i_V_far {G : px_Cg} (hG : gg G) : Cond.instanceMethod y_V_far ∈ G.Ts := hG.t (lm_3 (List.mem_of_getElem? (i := 114) rfl))
theorem v_V_far {G : px_Cg} (hG : gg G) : Cond.selects y_V_far.cls y_V_far y_V_far ∈ G.Ts := hG.t (lm_3 (List.mem_of_getElem? (i := 115) rfl))
theorem c_L_63 {G : px_Cg} (hG : gg G) : px_CW G.Ts "VisitorStepsLaw" 63 y_V_counted b_V_counted 4 none 2 := ⟨Or.inl (hG.t (lm_3 (List.mem_of_getElem? (i := 121) rfl))), hG.t (lm_3 (List.mem_of_getElem? (i := 124) rfl)), hG.t (lm_1 (List.mem_of_getElem? (i := 1) rfl)), ⟨by decide, by decide⟩, by decide +kernel⟩
theorem i_V_counted {G : px_Cg} (hG : gg G) : Cond.instanceMethod y_V_counted ∈ G.Ts := hG.t (lm_3 (List.mem_of_getElem? (i := 122) rfl))
theorem v_V_counted {G : px_Cg} (hG : gg G) : Cond.selects y_V_counted.cls y_V_counted y_V_counted ∈ G.Ts := hG.t (lm_3 (List.mem_of_getElem? (i := 123) rfl))
theorem c_L_67 {G : px_Cg} (hG : gg G) : px_CW G.Ts "VisitorStepsLaw" 67 y_V_fit b_V_fit 10 (some FieldType.int) 1 := ⟨Or.inl (hG.t (lm_3 (List.mem_of_getElem? (i := 129) rfl))), hG.t (lm_3 (List.mem_of_getElem? (i := 132) rfl)), hG.t (lm_1 (List.mem_of_getElem? (i := 1) rfl)), ⟨by decide, by decide⟩, by decide +kernel⟩
theorem i_V_fit {G : px_Cg} (hG : gg G) : Cond.instanceMethod y_V_fit ∈ G.Ts := hG.t (lm_3 (List.mem_of_getElem? (i := 130) rfl))
theorem v_V_fit {G : px_Cg} (hG : gg G) : Cond.selects y_V_fit.cls y_V_fit y_V_fit ∈ G.Ts := hG.t (lm_3 (List.mem_of_getElem? (i := 131) rfl))
theorem c_L_70 {G : px_Cg} (hG : gg G) : px_CW G.Ts "VisitorStepsLaw" 70 y_V_interest b_V_interest 2 (some FieldType.int) 1 := ⟨Or.inl (hG.t (lm_3 (List.mem_of_getElem? (i := 137) rfl))), hG.t (lm_3 (List.mem_of_getElem? (i := 140) rfl)), hG.t (lm_1 (List.mem_of_getElem? (i := 1) rfl)), ⟨by decide, by decide⟩, by decide +kernel⟩
theorem i_V_interest {G : px_Cg} (hG : gg G) : Cond.instanceMethod y_V_interest ∈ G.Ts := hG.t (lm_3 (List.mem_of_getElem? (i := 138) rfl))
theorem v_V_interest {G : px_Cg} (hG : gg G) : Cond.selects y_V_interest.cls y_V_interest y_V_interest ∈ G.Ts := hG.t (lm_3 (List.mem_of_getElem? (i := 139) rfl))
theorem c_L_73 {G : px_Cg} (hG : gg G) : px_CW G.Ts "VisitorStepsLaw" 73 y_V_count b_V_count 2 (some FieldType.int) 1 := ⟨Or.inl (hG.t (lm_3 (List.mem_of_getElem? (i := 144) rfl))), hG.t (lm_3 (List.mem_of_getElem? (i := 147) rfl)), hG.t (lm_1 (List.mem_of_getElem? (i := 1) rfl)), ⟨by decide, by decide⟩, by decide +kernel⟩
theorem i_V_count {G : px_Cg} (hG : gg G) : Cond.instanceMethod y_V_count ∈ G.Ts := hG.t (lm_3 (List.mem_of_getElem? (i := 145) rfl))
theorem v_V_count {G : px_Cg} (hG : gg G) : Cond.selects y_V_count.cls y_V_count y_V_count ∈ G.Ts := hG.t (lm_3 (List.mem_of_getElem? (i := 146) rfl))
