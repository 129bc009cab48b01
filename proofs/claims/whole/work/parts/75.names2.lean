/-! NAMES of the law: tables of handlers; words of its calls; decode rows; written by a program (gen/help.py) -/
abbrev hs_L_wall : List (Nat × Nat × Nat × Nat) := [(0, 19, 22, 13)]
abbrev hs_L_thing : List (Nat × Nat × Nat × Nat) := [(0, 14, 17, 13), (0, 14, 21, 19), (0, 14, 25, 21)]
abbrev hs_L_door : List (Nat × Nat × Nat × Nat) := [(0, 10, 13, 13), (0, 10, 17, 21)]
abbrev hs_L_room : List (Nat × Nat × Nat × Nat) := [(0, 9, 12, 19)]
abbrev hs_L_patience : List (Nat × Nat × Nat × Nat) := [(0, 9, 12, 19)]
abbrev hs_L_arrives : List (Nat × Nat × Nat × Nat) := [(0, 12, 15, 13), (0, 12, 19, 19), (0, 12, 23, 21)]
abbrev hs_L_run : List (Nat × Nat × Nat × Nat) := [(0, 9, 12, 19)]
abbrev hs_L_at : List (Nat × Nat × Nat × Nat) := [(0, 10, 13, 13)]
abbrev hs_L_about : List (Nat × Nat × Nat × Nat) := [(0, 10, 13, 13)]
abbrev hs_L_crowd : List (Nat × Nat × Nat × Nat) := [(0, 10, 13, 13)]
abbrev hs_L_stayed : List (Nat × Nat × Nat × Nat) := [(0, 10, 13, 13)]
abbrev hs_L_through : List (Nat × Nat × Nat × Nat) := [(0, 10, 13, 13)]
abbrev hs_L_seen : List (Nat × Nat × Nat × Nat) := [(0, 9, 12, 13)]
abbrev hs_L_far : List (Nat × Nat × Nat × Nat) := [(0, 12, 15, 13)]
abbrev hs_L_counted : List (Nat × Nat × Nat × Nat) := [(0, 6, 9, 13), (0, 6, 12, 19)]
abbrev hs_L_fit : List (Nat × Nat × Nat × Nat) := [(0, 9, 12, 19)]
abbrev hs_L_interest : List (Nat × Nat × Nat × Nat) := [(0, 9, 12, 13)]
abbrev hs_L_count : List (Nat × Nat × Nat × Nat) := [(0, 9, 12, 13)]
theorem cw_76 {G : px_Cg} (hG : gg G) : px_CW G.Ts "VisitorStepsLaw" 76 y_L_cell b_L_cell 2 (some FieldType.int) 2 := ⟨Or.inl (hG.t (lm_2 (List.mem_of_getElem? (i := 97) rfl))), hG.t (lm_2 (List.mem_of_getElem? (i := 99) rfl)), hG.t (lm_1 (List.mem_of_getElem? (i := 0) rfl)), ⟨by decide, by decide⟩, by decide +kernel⟩
theorem sw_76 {G : px_Cg} (hG : gg G) : Cond.static y_L_cell ∈ G.Ts := hG.t (lm_2 (List.mem_of_getElem? (i := 98) rfl))
theorem cw_82 {G : px_Cg} (hG : gg G) : px_CW G.Ts "VisitorStepsLaw" 82 y_V_init b_V_init 4 none 3 := ⟨Or.inl (hG.t (lm_1 (List.mem_of_getElem? (i := 17) rfl))), hG.t (lm_1 (List.mem_of_getElem? (i := 19) rfl)), hG.t (lm_1 (List.mem_of_getElem? (i := 1) rfl)), ⟨by decide, by decide⟩, by decide +kernel⟩
theorem iw_82 {G : px_Cg} (hG : gg G) : Cond.instanceMethod y_V_init ∈ G.Ts := hG.t (lm_1 (List.mem_of_getElem? (i := 18) rfl))
theorem cw_87 {G : px_Cg} (hG : gg G) : px_CW G.Ts "VisitorStepsLaw" 87 y_M_init b_M_init 5 none 3 := ⟨Or.inl (hG.t (lm_3 (List.mem_of_getElem? (i := 150) rfl))), hG.t (lm_3 (List.mem_of_getElem? (i := 152) rfl)), hG.t (lm_1 (List.mem_of_getElem? (i := 7) rfl)), ⟨by decide, by decide⟩, by decide +kernel⟩
theorem iw_87 {G : px_Cg} (hG : gg G) : Cond.instanceMethod y_M_init ∈ G.Ts := hG.t (lm_3 (List.mem_of_getElem? (i := 151) rfl))
theorem cw_88 {G : px_Cg} (hG : gg G) : px_CWH G.Ts "VisitorStepsLaw" 88 y_L_wall b_L_wall 6 (some FieldType.int) hs_L_wall 5 := ⟨Or.inl (hG.t (lm_2 (List.mem_of_getElem? (i := 100) rfl))), hG.t (lm_2 (List.mem_of_getElem? (i := 102) rfl)), hG.t (lm_1 (List.mem_of_getElem? (i := 0) rfl)), ⟨by decide, by decide⟩, by decide +kernel⟩
theorem sw_88 {G : px_Cg} (hG : gg G) : Cond.static y_L_wall ∈ G.Ts := hG.t (lm_2 (List.mem_of_getElem? (i := 101) rfl))
theorem cw_91 {G : px_Cg} (hG : gg G) : px_CW G.Ts "VisitorStepsLaw" 91 y_M_wall b_M_wall 7 (some FieldType.boolean) 3 := ⟨Or.inl (hG.t (lm_4 (List.mem_of_getElem? (i := 13) rfl))), hG.t (lm_4 (List.mem_of_getElem? (i := 16) rfl)), hG.t (lm_1 (List.mem_of_getElem? (i := 7) rfl)), ⟨by decide, by decide⟩, by decide +kernel⟩
theorem iw_91 {G : px_Cg} (hG : gg G) : Cond.instanceMethod y_M_wall ∈ G.Ts := hG.t (lm_4 (List.mem_of_getElem? (i := 14) rfl))
theorem vw_91 {G : px_Cg} (hG : gg G) : Cond.selects y_M_wall.cls y_M_wall y_M_wall ∈ G.Ts := hG.t (lm_4 (List.mem_of_getElem? (i := 15) rfl))
theorem cw_92 {G : px_Cg} (hG : gg G) : px_CW G.Ts "VisitorStepsLaw" 92 y_M_thrown b_M_thrown 1 (some FieldType.int) 0 := ⟨Or.inl (hG.t (lm_4 (List.mem_of_getElem? (i := 9) rfl))), hG.t (lm_4 (List.mem_of_getElem? (i := 12) rfl)), hG.t (lm_1 (List.mem_of_getElem? (i := 7) rfl)), ⟨by decide, by decide⟩, by decide +kernel⟩
theorem iw_92 {G : px_Cg} (hG : gg G) : Cond.instanceMethod y_M_thrown ∈ G.Ts := hG.t (lm_4 (List.mem_of_getElem? (i := 10) rfl))
theorem vw_92 {G : px_Cg} (hG : gg G) : Cond.selects y_M_thrown.cls y_M_thrown y_M_thrown ∈ G.Ts := hG.t (lm_4 (List.mem_of_getElem? (i := 11) rfl))
theorem cw_96 {G : px_Cg} (hG : gg G) : px_CWH G.Ts "VisitorStepsLaw" 96 y_L_thing b_L_thing 7 (some FieldType.int) hs_L_thing 6 := ⟨Or.inl (hG.t (lm_2 (List.mem_of_getElem? (i := 193) rfl))), hG.t (lm_2 (List.mem_of_getElem? (i := 195) rfl)), hG.t (lm_1 (List.mem_of_getElem? (i := 0) rfl)), ⟨by decide, by decide⟩, by decide +kernel⟩
theorem sw_96 {G : px_Cg} (hG : gg G) : Cond.static y_L_thing ∈ G.Ts := hG.t (lm_2 (List.mem_of_getElem? (i := 194) rfl))
theorem cw_99 {G : px_Cg} (hG : gg G) : px_CW G.Ts "VisitorStepsLaw" 99 y_M_thing b_M_thing 5 (some FieldType.int) 4 := ⟨Or.inl (hG.t (lm_4 (List.mem_of_getElem? (i := 32) rfl))), hG.t (lm_4 (List.mem_of_getElem? (i := 35) rfl)), hG.t (lm_1 (List.mem_of_getElem? (i := 7) rfl)), ⟨by decide, by decide⟩, by decide +kernel⟩
theorem iw_99 {G : px_Cg} (hG : gg G) : Cond.instanceMethod y_M_thing ∈ G.Ts := hG.t (lm_4 (List.mem_of_getElem? (i := 33) rfl))
theorem vw_99 {G : px_Cg} (hG : gg G) : Cond.selects y_M_thing.cls y_M_thing y_M_thing ∈ G.Ts := hG.t (lm_4 (List.mem_of_getElem? (i := 34) rfl))
theorem cw_100 {G : px_Cg} (hG : gg G) : px_CWH G.Ts "VisitorStepsLaw" 100 y_L_door b_L_door 5 (some FieldType.int) hs_L_door 4 := ⟨Or.inl (hG.t (lm_2 (List.mem_of_getElem? (i := 238) rfl))), hG.t (lm_3 (List.mem_of_getElem? (i := 0) rfl)), hG.t (lm_1 (List.mem_of_getElem? (i := 0) rfl)), ⟨by decide, by decide⟩, by decide +kernel⟩
theorem sw_100 {G : px_Cg} (hG : gg G) : Cond.static y_L_door ∈ G.Ts := hG.t (lm_2 (List.mem_of_getElem? (i := 239) rfl))
theorem cw_103 {G : px_Cg} (hG : gg G) : px_CW G.Ts "VisitorStepsLaw" 103 y_M_door b_M_door 3 (some FieldType.int) 2 := ⟨Or.inl (hG.t (lm_4 (List.mem_of_getElem? (i := 36) rfl))), hG.t (lm_4 (List.mem_of_getElem? (i := 39) rfl)), hG.t (lm_1 (List.mem_of_getElem? (i := 7) rfl)), ⟨by decide, by decide⟩, by decide +kernel⟩
theorem iw_103 {G : px_Cg} (hG : gg G) : Cond.instanceMethod y_M_door ∈ G.Ts := hG.t (lm_4 (List.mem_of_getElem? (i := 37) rfl))
theorem vw_103 {G : px_Cg} (hG : gg G) : Cond.selects y_M_door.cls y_M_door y_M_door ∈ G.Ts := hG.t (lm_4 (List.mem_of_getElem? (i := 38) rfl))
theorem cw_104 {G : px_Cg} (hG : gg G) : px_CWH G.Ts "VisitorStepsLaw" 104 y_L_room b_L_room 4 (some FieldType.int) hs_L_room 3 := ⟨Or.inl (hG.t (lm_3 (List.mem_of_getElem? (i := 10) rfl))), hG.t (lm_3 (List.mem_of_getElem? (i := 12) rfl)), hG.t (lm_1 (List.mem_of_getElem? (i := 0) rfl)), ⟨by decide, by decide⟩, by decide +kernel⟩
theorem sw_104 {G : px_Cg} (hG : gg G) : Cond.static y_L_room ∈ G.Ts := hG.t (lm_3 (List.mem_of_getElem? (i := 11) rfl))
theorem cw_107 {G : px_Cg} (hG : gg G) : px_CW G.Ts "VisitorStepsLaw" 107 y_M_room b_M_room 3 (some FieldType.int) 1 := ⟨Or.inl (hG.t (lm_4 (List.mem_of_getElem? (i := 40) rfl))), hG.t (lm_4 (List.mem_of_getElem? (i := 43) rfl)), hG.t (lm_1 (List.mem_of_getElem? (i := 7) rfl)), ⟨by decide, by decide⟩, by decide +kernel⟩
theorem iw_107 {G : px_Cg} (hG : gg G) : Cond.instanceMethod y_M_room ∈ G.Ts := hG.t (lm_4 (List.mem_of_getElem? (i := 41) rfl))
theorem vw_107 {G : px_Cg} (hG : gg G) : Cond.selects y_M_room.cls y_M_room y_M_room ∈ G.Ts := hG.t (lm_4 (List.mem_of_getElem? (i := 42) rfl))
theorem cw_108 {G : px_Cg} (hG : gg G) : px_CWH G.Ts "VisitorStepsLaw" 108 y_L_patience b_L_patience 4 (some FieldType.int) hs_L_patience 3 := ⟨Or.inl (hG.t (lm_3 (List.mem_of_getElem? (i := 18) rfl))), hG.t (lm_3 (List.mem_of_getElem? (i := 20) rfl)), hG.t (lm_1 (List.mem_of_getElem? (i := 0) rfl)), ⟨by decide, by decide⟩, by decide +kernel⟩
theorem sw_108 {G : px_Cg} (hG : gg G) : Cond.static y_L_patience ∈ G.Ts := hG.t (lm_3 (List.mem_of_getElem? (i := 19) rfl))
theorem cw_110 {G : px_Cg} (hG : gg G) : px_CW G.Ts "VisitorStepsLaw" 110 y_M_patience b_M_patience 3 (some FieldType.int) 1 := ⟨Or.inl (hG.t (lm_4 (List.mem_of_getElem? (i := 44) rfl))), hG.t (lm_4 (List.mem_of_getElem? (i := 47) rfl)), hG.t (lm_1 (List.mem_of_getElem? (i := 7) rfl)), ⟨by decide, by decide⟩, by decide +kernel⟩
theorem iw_110 {G : px_Cg} (hG : gg G) : Cond.instanceMethod y_M_patience ∈ G.Ts := hG.t (lm_4 (List.mem_of_getElem? (i := 45) rfl))
theorem vw_110 {G : px_Cg} (hG : gg G) : Cond.selects y_M_patience.cls y_M_patience y_M_patience ∈ G.Ts := hG.t (lm_4 (List.mem_of_getElem? (i := 46) rfl))
theorem cw_111 {G : px_Cg} (hG : gg G) : px_CWH G.Ts "VisitorStepsLaw" 111 y_L_arrives b_L_arrives 6 (some FieldType.int) hs_L_arrives 5 := ⟨Or.inl (hG.t (lm_3 (List.mem_of_getElem? (i := 26) rfl))), hG.t (lm_3 (List.mem_of_getElem? (i := 28) rfl)), hG.t (lm_1 (List.mem_of_getElem? (i := 0) rfl)), ⟨by decide, by decide⟩, by decide +kernel⟩
theorem sw_111 {G : px_Cg} (hG : gg G) : Cond.static y_L_arrives ∈ G.Ts := hG.t (lm_3 (List.mem_of_getElem? (i := 27) rfl))
theorem cw_114 {G : px_Cg} (hG : gg G) : px_CW G.Ts "VisitorStepsLaw" 114 y_M_arrives b_M_arrives 4 (some FieldType.int) 3 := ⟨Or.inl (hG.t (lm_4 (List.mem_of_getElem? (i := 48) rfl))), hG.t (lm_4 (List.mem_of_getElem? (i := 51) rfl)), hG.t (lm_1 (List.mem_of_getElem? (i := 7) rfl)), ⟨by decide, by decide⟩, by decide +kernel⟩
theorem iw_114 {G : px_Cg} (hG : gg G) : Cond.instanceMethod y_M_arrives ∈ G.Ts := hG.t (lm_4 (List.mem_of_getElem? (i := 49) rfl))
theorem vw_114 {G : px_Cg} (hG : gg G) : Cond.selects y_M_arrives.cls y_M_arrives y_M_arrives ∈ G.Ts := hG.t (lm_4 (List.mem_of_getElem? (i := 50) rfl))
theorem cw_115 {G : px_Cg} (hG : gg G) : px_CWH G.Ts "VisitorStepsLaw" 115 y_L_run b_L_run 4 (some FieldType.int) hs_L_run 3 := ⟨Or.inl (hG.t (lm_3 (List.mem_of_getElem? (i := 48) rfl))), hG.t (lm_3 (List.mem_of_getElem? (i := 50) rfl)), hG.t (lm_1 (List.mem_of_getElem? (i := 0) rfl)), ⟨by decide, by decide⟩, by decide +kernel⟩
theorem sw_115 {G : px_Cg} (hG : gg G) : Cond.static y_L_run ∈ G.Ts := hG.t (lm_3 (List.mem_of_getElem? (i := 49) rfl))
theorem cw_117 {G : px_Cg} (hG : gg G) : px_CW G.Ts "VisitorStepsLaw" 117 y_M_run b_M_run 3 (some FieldType.int) 1 := ⟨Or.inl (hG.t (lm_4 (List.mem_of_getElem? (i := 52) rfl))), hG.t (lm_4 (List.mem_of_getElem? (i := 55) rfl)), hG.t (lm_1 (List.mem_of_getElem? (i := 7) rfl)), ⟨by decide, by decide⟩, by decide +kernel⟩
theorem iw_117 {G : px_Cg} (hG : gg G) : Cond.instanceMethod y_M_run ∈ G.Ts := hG.t (lm_4 (List.mem_of_getElem? (i := 53) rfl))
theorem vw_117 {G : px_Cg} (hG : gg G) : Cond.selects y_M_run.cls y_M_run y_M_run ∈ G.Ts := hG.t (lm_4 (List.mem_of_getElem? (i := 54) rfl))
theorem cw_118 {G : px_Cg} (hG : gg G) : px_CWH G.Ts "VisitorStepsLaw" 118 y_L_at b_L_at 5 (some FieldType.int) hs_L_at 4 := ⟨Or.inl (hG.t (lm_3 (List.mem_of_getElem? (i := 56) rfl))), hG.t (lm_3 (List.mem_of_getElem? (i := 58) rfl)), hG.t (lm_1 (List.mem_of_getElem? (i := 0) rfl)), ⟨by decide, by decide⟩, by decide +kernel⟩
theorem sw_118 {G : px_Cg} (hG : gg G) : Cond.static y_L_at ∈ G.Ts := hG.t (lm_3 (List.mem_of_getElem? (i := 57) rfl))
theorem cw_120 {G : px_Cg} (hG : gg G) : px_CW G.Ts "VisitorStepsLaw" 120 y_M_at b_M_at 3 (some FieldType.int) 2 := ⟨Or.inl (hG.t (lm_4 (List.mem_of_getElem? (i := 116) rfl))), hG.t (lm_4 (List.mem_of_getElem? (i := 119) rfl)), hG.t (lm_1 (List.mem_of_getElem? (i := 7) rfl)), ⟨by decide, by decide⟩, by decide +kernel⟩
theorem iw_120 {G : px_Cg} (hG : gg G) : Cond.instanceMethod y_M_at ∈ G.Ts := hG.t (lm_4 (List.mem_of_getElem? (i := 117) rfl))
theorem vw_120 {G : px_Cg} (hG : gg G) : Cond.selects y_M_at.cls y_M_at y_M_at ∈ G.Ts := hG.t (lm_4 (List.mem_of_getElem? (i := 118) rfl))
theorem cw_121 {G : px_Cg} (hG : gg G) : px_CWH G.Ts "VisitorStepsLaw" 121 y_L_about b_L_about 5 (some FieldType.int) hs_L_about 4 := ⟨Or.inl (hG.t (lm_3 (List.mem_of_getElem? (i := 69) rfl))), hG.t (lm_3 (List.mem_of_getElem? (i := 71) rfl)), hG.t (lm_1 (List.mem_of_getElem? (i := 0) rfl)), ⟨by decide, by decide⟩, by decide +kernel⟩
theorem sw_121 {G : px_Cg} (hG : gg G) : Cond.static y_L_about ∈ G.Ts := hG.t (lm_3 (List.mem_of_getElem? (i := 70) rfl))
theorem cw_123 {G : px_Cg} (hG : gg G) : px_CW G.Ts "VisitorStepsLaw" 123 y_M_about b_M_about 3 (some FieldType.int) 2 := ⟨Or.inl (hG.t (lm_4 (List.mem_of_getElem? (i := 124) rfl))), hG.t (lm_4 (List.mem_of_getElem? (i := 127) rfl)), hG.t (lm_1 (List.mem_of_getElem? (i := 7) rfl)), ⟨by decide, by decide⟩, by decide +kernel⟩
theorem iw_123 {G : px_Cg} (hG : gg G) : Cond.instanceMethod y_M_about ∈ G.Ts := hG.t (lm_4 (List.mem_of_getElem? (i := 125) rfl))
theorem vw_123 {G : px_Cg} (hG : gg G) : Cond.selects y_M_about.cls y_M_about y_M_about ∈ G.Ts := hG.t (lm_4 (List.mem_of_getElem? (i := 126) rfl))
theorem cw_124 {G : px_Cg} (hG : gg G) : px_CWH G.Ts "VisitorStepsLaw" 124 y_L_crowd b_L_crowd 5 (some FieldType.int) hs_L_crowd 4 := ⟨Or.inl (hG.t (lm_3 (List.mem_of_getElem? (i := 77) rfl))), hG.t (lm_3 (List.mem_of_getElem? (i := 79) rfl)), hG.t (lm_1 (List.mem_of_getElem? (i := 0) rfl)), ⟨by decide, by decide⟩, by decide +kernel⟩
theorem sw_124 {G : px_Cg} (hG : gg G) : Cond.static y_L_crowd ∈ G.Ts := hG.t (lm_3 (List.mem_of_getElem? (i := 78) rfl))
theorem cw_126 {G : px_Cg} (hG : gg G) : px_CW G.Ts "VisitorStepsLaw" 126 y_M_crowd b_M_crowd 3 (some FieldType.int) 2 := ⟨Or.inl (hG.t (lm_4 (List.mem_of_getElem? (i := 128) rfl))), hG.t (lm_4 (List.mem_of_getElem? (i := 131) rfl)), hG.t (lm_1 (List.mem_of_getElem? (i := 7) rfl)), ⟨by decide, by decide⟩, by decide +kernel⟩
theorem iw_126 {G : px_Cg} (hG : gg G) : Cond.instanceMethod y_M_crowd ∈ G.Ts := hG.t (lm_4 (List.mem_of_getElem? (i := 129) rfl))
theorem vw_126 {G : px_Cg} (hG : gg G) : Cond.selects y_M_crowd.cls y_M_crowd y_M_crowd ∈ G.Ts := hG.t (lm_4 (List.mem_of_getElem? (i := 130) rfl))
theorem cw_127 {G : px_Cg} (hG : gg G) : px_CWH G.Ts "VisitorStepsLaw" 127 y_L_stayed b_L_stayed 5 (some FieldType.int) hs_L_stayed 4 := ⟨Or.inl (hG.t (lm_3 (List.mem_of_getElem? (i := 84) rfl))), hG.t (lm_3 (List.mem_of_getElem? (i := 86) rfl)), hG.t (lm_1 (List.mem_of_getElem? (i := 0) rfl)), ⟨by decide, by decide⟩, by decide +kernel⟩
theorem sw_127 {G : px_Cg} (hG : gg G) : Cond.static y_L_stayed ∈ G.Ts := hG.t (lm_3 (List.mem_of_getElem? (i := 85) rfl))
theorem cw_129 {G : px_Cg} (hG : gg G) : px_CW G.Ts "VisitorStepsLaw" 129 y_M_stayed b_M_stayed 3 (some FieldType.int) 2 := ⟨Or.inl (hG.t (lm_4 (List.mem_of_getElem? (i := 132) rfl))), hG.t (lm_4 (List.mem_of_getElem? (i := 135) rfl)), hG.t (lm_1 (List.mem_of_getElem? (i := 7) rfl)), ⟨by decide, by decide⟩, by decide +kernel⟩
theorem iw_129 {G : px_Cg} (hG : gg G) : Cond.instanceMethod y_M_stayed ∈ G.Ts := hG.t (lm_4 (List.mem_of_getElem? (i := 133) rfl))
theorem vw_129 {G : px_Cg} (hG : gg G) : Cond.selects y_M_stayed.cls y_M_stayed y_M_stayed ∈ G.Ts := hG.t (lm_4 (List.mem_of_getElem? (i := 134) rfl))
theorem cw_130 {G : px_Cg} (hG : gg G) : px_CWH G.Ts "VisitorStepsLaw" 130 y_L_through b_L_through 5 (some FieldType.int) hs_L_through 4 := ⟨Or.inl (hG.t (lm_3 (List.mem_of_getElem? (i := 91) rfl))), hG.t (lm_3 (List.mem_of_getElem? (i := 93) rfl)), hG.t (lm_1 (List.mem_of_getElem? (i := 0) rfl)), ⟨by decide, by decide⟩, by decide +kernel⟩
theorem sw_130 {G : px_Cg} (hG : gg G) : Cond.static y_L_through ∈ G.Ts := hG.t (lm_3 (List.mem_of_getElem? (i := 92) rfl))
theorem cw_133 {G : px_Cg} (hG : gg G) : px_CW G.Ts "VisitorStepsLaw" 133 y_M_through b_M_through 3 (some FieldType.int) 2 := ⟨Or.inl (hG.t (lm_4 (List.mem_of_getElem? (i := 136) rfl))), hG.t (lm_4 (List.mem_of_getElem? (i := 139) rfl)), hG.t (lm_1 (List.mem_of_getElem? (i := 7) rfl)), ⟨by decide, by decide⟩, by decide +kernel⟩
theorem iw_133 {G : px_Cg} (hG : gg G) : Cond.instanceMethod y_M_through ∈ G.Ts := hG.t (lm_4 (List.mem_of_getElem? (i := 137) rfl))
theorem vw_133 {G : px_Cg} (hG : gg G) : Cond.selects y_M_through.cls y_M_through y_M_through ∈ G.Ts := hG.t (lm_4 (List.mem_of_getElem? (i := 138) rfl))
theorem cw_134 {G : px_Cg} (hG : gg G) : px_CWH G.Ts "VisitorStepsLaw" 134 y_L_seen b_L_seen 4 (some FieldType.int) hs_L_seen 3 := ⟨Or.inl (hG.t (lm_3 (List.mem_of_getElem? (i := 98) rfl))), hG.t (lm_3 (List.mem_of_getElem? (i := 100) rfl)), hG.t (lm_1 (List.mem_of_getElem? (i := 0) rfl)), ⟨by decide, by decide⟩, by decide +kernel⟩
theorem sw_134 {G : px_Cg} (hG : gg G) : Cond.static y_L_seen ∈ G.Ts := hG.t (lm_3 (List.mem_of_getElem? (i := 99) rfl))
theorem cw_136 {G : px_Cg} (hG : gg G) : px_CW G.Ts "VisitorStepsLaw" 136 y_M_seen b_M_seen 2 (some FieldType.int) 1 := ⟨Or.inl (hG.t (lm_4 (List.mem_of_getElem? (i := 140) rfl))), hG.t (lm_4 (List.mem_of_getElem? (i := 143) rfl)), hG.t (lm_1 (List.mem_of_getElem? (i := 7) rfl)), ⟨by decide, by decide⟩, by decide +kernel⟩
theorem iw_136 {G : px_Cg} (hG : gg G) : Cond.instanceMethod y_M_seen ∈ G.Ts := hG.t (lm_4 (List.mem_of_getElem? (i := 141) rfl))
theorem vw_136 {G : px_Cg} (hG : gg G) : Cond.selects y_M_seen.cls y_M_seen y_M_seen ∈ G.Ts := hG.t (lm_4 (List.mem_of_getElem? (i := 142) rfl))
theorem cw_137 {G : px_Cg} (hG : gg G) : px_CWH G.Ts "VisitorStepsLaw" 137 y_L_far b_L_far 6 (some FieldType.int) hs_L_far 5 := ⟨Or.inl (hG.t (lm_3 (List.mem_of_getElem? (i := 110) rfl))), hG.t (lm_3 (List.mem_of_getElem? (i := 112) rfl)), hG.t (lm_1 (List.mem_of_getElem? (i := 0) rfl)), ⟨by decide, by decide⟩, by decide +kernel⟩
theorem sw_137 {G : px_Cg} (hG : gg G) : Cond.static y_L_far ∈ G.Ts := hG.t (lm_3 (List.mem_of_getElem? (i := 111) rfl))
theorem cw_139 {G : px_Cg} (hG : gg G) : px_CW G.Ts "VisitorStepsLaw" 139 y_M_far b_M_far 5 (some FieldType.int) 3 := ⟨Or.inl (hG.t (lm_4 (List.mem_of_getElem? (i := 148) rfl))), hG.t (lm_4 (List.mem_of_getElem? (i := 151) rfl)), hG.t (lm_1 (List.mem_of_getElem? (i := 7) rfl)), ⟨by decide, by decide⟩, by decide +kernel⟩
theorem iw_139 {G : px_Cg} (hG : gg G) : Cond.instanceMethod y_M_far ∈ G.Ts := hG.t (lm_4 (List.mem_of_getElem? (i := 149) rfl))
theorem vw_139 {G : px_Cg} (hG : gg G) : Cond.selects y_M_far.cls y_M_far y_M_far ∈ G.Ts := hG.t (lm_4 (List.mem_of_getElem? (i := 150) rfl))
theorem cw_140 {G : px_Cg} (hG : gg G) : px_CW G.Ts "VisitorStepsLaw" 140 y_V_escape b_V_escape 2 (some FieldType.int) 0 := ⟨Or.inl (hG.t (lm_1 (List.mem_of_getElem? (i := 217) rfl))), hG.t (lm_1 (List.mem_of_getElem? (i := 220) rfl)), hG.t (lm_1 (List.mem_of_getElem? (i := 1) rfl)), ⟨by decide, by decide⟩, by decide +kernel⟩
theorem iw_140 {G : px_Cg} (hG : gg G) : Cond.instanceMethod y_V_escape ∈ G.Ts := hG.t (lm_1 (List.mem_of_getElem? (i := 218) rfl))
theorem vw_140 {G : px_Cg} (hG : gg G) : Cond.selects y_V_escape.cls y_V_escape y_V_escape ∈ G.Ts := hG.t (lm_1 (List.mem_of_getElem? (i := 219) rfl))
theorem cw_143 {G : px_Cg} (hG : gg G) : px_CW G.Ts "VisitorStepsLaw" 143 y_M_escape b_M_escape 3 (some FieldType.int) 0 := ⟨Or.inl (hG.t (lm_4 (List.mem_of_getElem? (i := 152) rfl))), hG.t (lm_4 (List.mem_of_getElem? (i := 155) rfl)), hG.t (lm_1 (List.mem_of_getElem? (i := 7) rfl)), ⟨by decide, by decide⟩, by decide +kernel⟩
theorem iw_143 {G : px_Cg} (hG : gg G) : Cond.instanceMethod y_M_escape ∈ G.Ts := hG.t (lm_4 (List.mem_of_getElem? (i := 153) rfl))
theorem vw_143 {G : px_Cg} (hG : gg G) : Cond.selects y_M_escape.cls y_M_escape y_M_escape ∈ G.Ts := hG.t (lm_4 (List.mem_of_getElem? (i := 154) rfl))
theorem cw_144 {G : px_Cg} (hG : gg G) : px_CWH G.Ts "VisitorStepsLaw" 144 y_L_counted b_L_counted 4 (some FieldType.int) hs_L_counted 3 := ⟨Or.inl (hG.t (lm_3 (List.mem_of_getElem? (i := 118) rfl))), hG.t (lm_3 (List.mem_of_getElem? (i := 120) rfl)), hG.t (lm_1 (List.mem_of_getElem? (i := 0) rfl)), ⟨by decide, by decide⟩, by decide +kernel⟩
theorem sw_144 {G : px_Cg} (hG : gg G) : Cond.static y_L_counted ∈ G.Ts := hG.t (lm_3 (List.mem_of_getElem? (i := 119) rfl))
theorem cw_147 {G : px_Cg} (hG : gg G) : px_CW G.Ts "VisitorStepsLaw" 147 y_M_counted b_M_counted 3 none 2 := ⟨Or.inl (hG.t (lm_4 (List.mem_of_getElem? (i := 164) rfl))), hG.t (lm_4 (List.mem_of_getElem? (i := 167) rfl)), hG.t (lm_1 (List.mem_of_getElem? (i := 7) rfl)), ⟨by decide, by decide⟩, by decide +kernel⟩
theorem iw_147 {G : px_Cg} (hG : gg G) : Cond.instanceMethod y_M_counted ∈ G.Ts := hG.t (lm_4 (List.mem_of_getElem? (i := 165) rfl))
theorem vw_147 {G : px_Cg} (hG : gg G) : Cond.selects y_M_counted.cls y_M_counted y_M_counted ∈ G.Ts := hG.t (lm_4 (List.mem_of_getElem? (i := 166) rfl))
theorem cw_148 {G : px_Cg} (hG : gg G) : px_CW G.Ts "VisitorStepsLaw" 148 y_V_sum b_V_sum 1 (some FieldType.int) 0 := ⟨Or.inl (hG.t (lm_2 (List.mem_of_getElem? (i := 75) rfl))), hG.t (lm_2 (List.mem_of_getElem? (i := 78) rfl)), hG.t (lm_1 (List.mem_of_getElem? (i := 1) rfl)), ⟨by decide, by decide⟩, by decide +kernel⟩
theorem iw_148 {G : px_Cg} (hG : gg G) : Cond.instanceMethod y_V_sum ∈ G.Ts := hG.t (lm_2 (List.mem_of_getElem? (i := 76) rfl))
theorem vw_148 {G : px_Cg} (hG : gg G) : Cond.selects y_V_sum.cls y_V_sum y_V_sum ∈ G.Ts := hG.t (lm_2 (List.mem_of_getElem? (i := 77) rfl))
theorem cw_151 {G : px_Cg} (hG : gg G) : px_CW G.Ts "VisitorStepsLaw" 151 y_M_sum b_M_sum 1 (some FieldType.int) 0 := ⟨Or.inl (hG.t (lm_4 (List.mem_of_getElem? (i := 168) rfl))), hG.t (lm_4 (List.mem_of_getElem? (i := 171) rfl)), hG.t (lm_1 (List.mem_of_getElem? (i := 7) rfl)), ⟨by decide, by decide⟩, by decide +kernel⟩
theorem iw_151 {G : px_Cg} (hG : gg G) : Cond.instanceMethod y_M_sum ∈ G.Ts := hG.t (lm_4 (List.mem_of_getElem? (i := 169) rfl))
theorem vw_151 {G : px_Cg} (hG : gg G) : Cond.selects y_M_sum.cls y_M_sum y_M_sum ∈ G.Ts := hG.t (lm_4 (List.mem_of_getElem? (i := 170) rfl))
theorem cw_152 {G : px_Cg} (hG : gg G) : px_CWH G.Ts "VisitorStepsLaw" 152 y_L_fit b_L_fit 4 (some FieldType.int) hs_L_fit 3 := ⟨Or.inl (hG.t (lm_3 (List.mem_of_getElem? (i := 126) rfl))), hG.t (lm_3 (List.mem_of_getElem? (i := 128) rfl)), hG.t (lm_1 (List.mem_of_getElem? (i := 0) rfl)), ⟨by decide, by decide⟩, by decide +kernel⟩
theorem sw_152 {G : px_Cg} (hG : gg G) : Cond.static y_L_fit ∈ G.Ts := hG.t (lm_3 (List.mem_of_getElem? (i := 127) rfl))
theorem cw_154 {G : px_Cg} (hG : gg G) : px_CW G.Ts "VisitorStepsLaw" 154 y_M_fit b_M_fit 5 (some FieldType.int) 1 := ⟨Or.inl (hG.t (lm_4 (List.mem_of_getElem? (i := 176) rfl))), hG.t (lm_4 (List.mem_of_getElem? (i := 179) rfl)), hG.t (lm_1 (List.mem_of_getElem? (i := 7) rfl)), ⟨by decide, by decide⟩, by decide +kernel⟩
theorem iw_154 {G : px_Cg} (hG : gg G) : Cond.instanceMethod y_M_fit ∈ G.Ts := hG.t (lm_4 (List.mem_of_getElem? (i := 177) rfl))
theorem vw_154 {G : px_Cg} (hG : gg G) : Cond.selects y_M_fit.cls y_M_fit y_M_fit ∈ G.Ts := hG.t (lm_4 (List.mem_of_getElem? (i := 178) rfl))
theorem cw_155 {G : px_Cg} (hG : gg G) : px_CWH G.Ts "VisitorStepsLaw" 155 y_L_interest b_L_interest 4 (some FieldType.int) hs_L_interest 3 := ⟨Or.inl (hG.t (lm_3 (List.mem_of_getElem? (i := 134) rfl))), hG.t (lm_3 (List.mem_of_getElem? (i := 136) rfl)), hG.t (lm_1 (List.mem_of_getElem? (i := 0) rfl)), ⟨by decide, by decide⟩, by decide +kernel⟩
theorem sw_155 {G : px_Cg} (hG : gg G) : Cond.static y_L_interest ∈ G.Ts := hG.t (lm_3 (List.mem_of_getElem? (i := 135) rfl))
theorem cw_157 {G : px_Cg} (hG : gg G) : px_CW G.Ts "VisitorStepsLaw" 157 y_M_interest b_M_interest 2 (some FieldType.int) 1 := ⟨Or.inl (hG.t (lm_4 (List.mem_of_getElem? (i := 184) rfl))), hG.t (lm_4 (List.mem_of_getElem? (i := 187) rfl)), hG.t (lm_1 (List.mem_of_getElem? (i := 7) rfl)), ⟨by decide, by decide⟩, by decide +kernel⟩
theorem iw_157 {G : px_Cg} (hG : gg G) : Cond.instanceMethod y_M_interest ∈ G.Ts := hG.t (lm_4 (List.mem_of_getElem? (i := 185) rfl))
theorem vw_157 {G : px_Cg} (hG : gg G) : Cond.selects y_M_interest.cls y_M_interest y_M_interest ∈ G.Ts := hG.t (lm_4 (List.mem_of_getElem? (i := 186) rfl))
theorem cw_158 {G : px_Cg} (hG : gg G) : px_CWH G.Ts "VisitorStepsLaw" 158 y_L_count b_L_count 4 (some FieldType.int) hs_L_count 3 := ⟨Or.inl (hG.t (lm_3 (List.mem_of_getElem? (i := 141) rfl))), hG.t (lm_3 (List.mem_of_getElem? (i := 143) rfl)), hG.t (lm_1 (List.mem_of_getElem? (i := 0) rfl)), ⟨by decide, by decide⟩, by decide +kernel⟩
theorem sw_158 {G : px_Cg} (hG : gg G) : Cond.static y_L_count ∈ G.Ts := hG.t (lm_3 (List.mem_of_getElem? (i := 142) rfl))
theorem cw_160 {G : px_Cg} (hG : gg G) : px_CW G.Ts "VisitorStepsLaw" 160 y_M_count b_M_count 4 (some FieldType.int) 1 := ⟨Or.inl (hG.t (lm_4 (List.mem_of_getElem? (i := 188) rfl))), hG.t (lm_4 (List.mem_of_getElem? (i := 191) rfl)), hG.t (lm_1 (List.mem_of_getElem? (i := 7) rfl)), ⟨by decide, by decide⟩, by decide +kernel⟩
theorem iw_160 {G : px_Cg} (hG : gg G) : Cond.instanceMethod y_M_count ∈ G.Ts := hG.t (lm_4 (List.mem_of_getElem? (i := 189) rfl))
theorem vw_160 {G : px_Cg} (hG : gg G) : Cond.selects y_M_count.cls y_M_count y_M_count ∈ G.Ts := hG.t (lm_4 (List.mem_of_getElem? (i := 190) rfl))
