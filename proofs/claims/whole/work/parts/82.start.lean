/-! THE START: what is known of it -/
theorem ao_int {a a' : Array Value} {U U' : State} (hal : U.vm.Alike U'.vm) (h : (Cond.arrayOver (.array .int)).before a U = true) : (Cond.arrayOver (.array .int)).before a' U' = true := by
  simp only [Cond.before, Cond.holds, Cond.value] at h ⊢
  rw [hal.findClass]
  cases hf : U.vm.findClass (FieldType.array .int).toString with
  | none => rw [hf] at h; simp at h
  | some comp =>
    rw [hf] at h
    simp only [Option.bind_some] at h ⊢
    rw [hal.findIdx_congr _ (fun _ _ _ _ => rfl)]
    generalize hF : (U.vm.classes.findIdx? fun (x : Class) => match x.kind with | .array component _ => component == comp | _ => false) = fi at h ⊢
    cases fi with
    | none => simp at h
    | some c =>
      simp only [Option.bind_some] at h ⊢
      cases hk : U.vm.classes[c]? with
      | none => rw [hk] at h; simp at h
      | some k =>
        obtain ⟨k', hk', ek⟩ := hal.2.2 _ _ hk
        rw [hk] at h
        rw [hk', hal.findClass]
        have ekind : k'.kind = k.kind := by rw [ek]
        simp only [Option.map_some] at h ⊢
        rw [ekind]
        exact h
/-- words that hold over warmer tables -/
def st_k : Cond → Bool
  | .fieldLinkNest .. => true
  | .methodLinkNest .. => true
  | .arrayClass _ => true
  | .arrayOver (.object _) => true
  | c => c.tabsOnly
theorem st_k_warm (w : Cond) (h : st_k w = true) {a a' : Array Value} {s U : State} (hW : s.WarmedH U.vm) (hb : w.before a s = true) : w.before a' U = true := by
  have hs : U.setVm U.vm = U := State.setVm_self U
  unfold st_k at h
  split at h
  · rw [← hs, Cond.onTables_vm (A' := a) (U' := s) U.vm _ rfl]
    exact Cond.fieldLinkNest_warmed hW hb
  · rw [← hs, Cond.onTables_vm (A' := a) (U' := s) U.vm _ rfl]
    exact Cond.methodLinkNest_warmed hW hb
  · exact Jvm.Free.SB.ASBInit.arrayClass_alike hW.alike hb
  · exact Cond.arrayOver_alike hW.alike hb
  · have h2 := Cond.tabsOnly_warm (args' := a') (T := U) hW w h hb
    rwa [hs] at h2
theorem st_nc {k nm : String} {a a' : Array Value} {s U : State} (hal : s.vm.Alike U.vm) (h : (Cond.not (.castable k nm)).before a s = true) : (Cond.not (.castable k nm)).before a' U = true := by
  simp only [Cond.before, Cond.holds, Cond.value, hal.findClass, hal.assignable] at h ⊢
  exact h
set_option maxRecDepth 100000 in
theorem tbl_rides : ∀ w ∈ lw_ts, st_k w = true ∨ w = Cond.arrayOver (.array .int) := by decide +kernel
def st_chk (w : Cond) : Bool := match w with
  | .stringRef o k _ => decide (o = "VisitorSteps" → k ∈ [66, 77, 86, 92, 96, 106, 111, 116, 130, 147, 171, 177, 202, 204, 206, 208])
  | _ => true
set_option maxRecDepth 100000 in
theorem tbl_str : ∀ w ∈ lw_tbl, st_chk w = true := by decide +kernel
theorem st_ref {C n d : String} {v : Value} {A : Nat → Prop} {a : Array Value} {U : State} (hv : v = .null ∨ ∃ t, v = .ref t) (h : va_Z C n d v A U U.heap) : (Cond.isRef (.static C n d)).before a U = true := by
  obtain ⟨cf, kf, fi, f, ad, cell, h1, h2, h3, h4, h5, h6, h7, h8⟩ := h
  have e : (Term.static C n d).eval a U none [] U = some v := by
    simp [Term.eval, State.fieldNamed?, h1, h2, h4, h5, h6, h7]
  rcases hv with rfl | ⟨t, rfl⟩ <;> simp [Cond.before, Cond.holds, Cond.value, e]
theorem ls_moved {O n d : String} {a a' : Array Value} {s U : State} (hal : s.vm.Alike U.vm) (hU : ∀ q : Nat, q < s.heap.size → U.heap[q]? = s.heap[q]?) (h : (Cond.laysStatic O n d).before a s = true) : (Cond.laysStatic O n d).before a' U = true := by
  obtain ⟨c, k, i, f, ad, cell, h1, h2, h3, h4, h5, h6, h7, h8, h9⟩ := Cond.laysStatic_spec h
  obtain ⟨k', hi', he⟩ := State.fieldFound?_setVm hal h2
  have hc : U.vm.findClass O = some c := by rw [hal.findClass]; exact h1
  have hk : k'.statics = some ad := by rw [he]; exact h4
  have hty : k'.staticTypes[f.slot]? = some f.type := by rw [he]; exact h9
  have hi2 : U.fieldFound? O n d = some (c, k', i, f) := hi'
  have hcell : U.heap[ad]? = some cell := (hU ad (Array.getElem?_eq_some_iff.mp h5).1).trans h5
  simp [Cond.before, Cond.holds, Cond.value, hc, hi2, hk, hcell, h3, h6, h7, h8, hty]
section STA
variable {s : State} {b L : Nat} {xs : Nat → Int32} {args : Array Value}
theorem st_words (hts : ∀ w ∈ lw_tbl, w.before args s = true) : ∀ w ∈ lw_ts, ∀ (a' : Array Value) (U : State), s.WarmedH U.vm → w.before a' U = true := by
  intro w hw a' U hW
  rcases tbl_rides w hw with h | h
  · exact st_k_warm w h hW (hts w (List.mem_filter.mp hw).1)
  · have h2 := hts w (List.mem_filter.mp hw).1
    rw [h] at h2 ⊢
    exact ao_int hW.alike h2
theorem st_K (hts : ∀ w ∈ lw_tbl, w.before args s = true) : ∃ D : va_G, va_K D vcl [] s := by
  obtain ⟨c0, i0, k0⟩ := u_known (C := R_H) (T := T_H) (N := 13) (n := 13) hts tw_H (hts _ (lm_1 (List.mem_of_getElem? (i := 24) rfl)))
  obtain ⟨c1, i1, k1⟩ := u_known (C := R_P) (T := T_P) (N := 10) (n := 10) hts tw_P (hts _ (lm_1 (List.mem_of_getElem? (i := 110) rfl)))
  obtain ⟨c2, i2, k2⟩ := u_known (C := R_K) (T := T_K) (N := 11) (n := 11) hts tw_K (hts _ (lm_1 (List.mem_of_getElem? (i := 103) rfl)))
  obtain ⟨c3, i3, k3⟩ := u_known (C := R_V) (T := T_V) (N := 4) (n := 4) hts tw_V (hts _ (lm_1 (List.mem_of_getElem? (i := 16) rfl)))
  obtain ⟨c4, i4, k4⟩ := u_known (C := R_M) (T := T_M) (N := 31) (n := 31) hts tw_M (hts _ (lm_3 (List.mem_of_getElem? (i := 149) rfl)))
  refine ⟨(fun c => match c with | 0 => c0 | 1 => c1 | 2 => c2 | 3 => c3 | _ => c4, fun c => match c with | 0 => i0 | 1 => i1 | 2 => i2 | 3 => i3 | _ => i4), fun c q hq => ?_, fun k q hk => by simp at hk⟩
  match c, hq with
  | 0, hq => cases hq; exact k0
  | 1, hq => cases hq; exact k1
  | 2, hq => cases hq; exact k2
  | 3, hq => cases hq; exact k3
  | 4, hq => cases hq; exact k4
  | c + 5, hq => simp [vcl] at hq
theorem st_all (hts : ∀ w ∈ lw_tbl, w.before #[Value.ref b] s = true) (hgv : (Jvm.Cond.and given_1 narrow_1).before #[Value.ref b] s = true) (hX : va_X b L xs s s.heap) (hb : b < s.heap.size) (hL : L ≤ 2563) :
    ∃ (G : px_Cg) (N : Nat) (f : Nat → Int32), G.S0 = s ∧ G.z0 = s.heap.size ∧ GA G ∧ CAT G ∧ G.ρ b = some (.inl (.int, N, .inl f)) ∧ N ≤ 2563 := by
  have hs := flat_of_before _ hgv
  have hA : ∀ a : Nat, a < s.heap.size → ¬ (fun q => s.heap.size ≤ q) a := fun a ha h => absurd ha (Nat.not_lt.mpr h)
  obtain ⟨D, hK⟩ := st_K hts
  obtain ⟨sx, ex, Tx⟩ := va_Tof (tm := .static "VisitorSteps" "SIDE_X" "[I") (ty := .int) (N := 4) (f := fun j => .int (sideX j)) (by decide) (hs _ (by decide +kernel)) (va_eqt (hs _ (by decide +kernel))) (fun j hj => by
    obtain rfl | rfl | rfl | rfl : j = 0 ∨ j = 1 ∨ j = 2 ∨ j = 3 := by omega
    all_goals exact va_eqt (hs _ (by decide +kernel))) hA
  obtain ⟨sy, ey, Ty⟩ := va_Tof (tm := .static "VisitorSteps" "SIDE_Y" "[I") (ty := .int) (N := 4) (f := fun j => .int (sideY j)) (by decide) (hs _ (by decide +kernel)) (va_eqt (hs _ (by decide +kernel))) (fun j hj => by
    obtain rfl | rfl | rfl | rfl : j = 0 ∨ j = 1 ∨ j = 2 ∨ j = 3 := by omega
    all_goals exact va_eqt (hs _ (by decide +kernel))) hA
  have Zx := va_Zref (C := "VisitorSteps") (n := "SIDE_X") (d := "[I") (hts _ (lm_2 (List.mem_of_getElem? (i := 52) rfl))) (hts _ (lm_1 (List.mem_of_getElem? (i := 1) rfl))) ex hA
  have Zy := va_Zref (C := "VisitorSteps") (n := "SIDE_Y") (d := "[I") (hts _ (lm_2 (List.mem_of_getElem? (i := 54) rfl))) (hts _ (lm_1 (List.mem_of_getElem? (i := 1) rfl))) ey hA
  have Z1 := va_Zqof (C := "java/lang/Throwable") (n := "UNASSIGNED_STACK") (d := "[Ljava/lang/StackTraceElement;") (hts _ (lm_2 (List.mem_of_getElem? (i := 139) rfl))) (hts _ (lm_1 (List.mem_of_getElem? (i := 8) rfl))) (hs _ (by decide +kernel)) hA
  have Z2 := va_Zqof (C := "java/lang/Throwable") (n := "SUPPRESSED_SENTINEL") (d := "Ljava/util/List;") (hts _ (lm_2 (List.mem_of_getElem? (i := 141) rfl))) (hts _ (lm_1 (List.mem_of_getElem? (i := 8) rfl))) (hs _ (by decide +kernel)) hA
  obtain ⟨cx, x1, x2, x3, x4, x5, x6, x7⟩ := Tx
  obtain ⟨cy, y1, y2, y3, y4, y5, y6, y7⟩ := Ty
  have hxy : sy ≠ sx := fun e => by
    rw [e] at y1
    cases x1.symm.trans y1
    have := (x6 0 (by decide)).symm.trans (y6 0 (by decide))
    exact absurd this (by decide)
  obtain ⟨cb, b1, b2, b3, b4, b5⟩ := hX
  have hlt : ∀ {a : Nat} {c : Cell}, s.heap[a]? = some c → a < s.heap.size := fun h => (Array.getElem?_eq_some_iff.mp h).1
  have words := st_words hts
  have hnc : ∀ k nm : String, (Cond.not (.castable k nm)).before #[Value.ref b] s = true → ∀ (a : Array Value) (U : State), s.WarmedH U.vm → (Cond.not (.castable k nm)).before a U = true := fun k nm h a U hW => st_nc hW.alike h
  refine ⟨(s, D, vcl, s.heap.size, (fun a => if a = sx then some (.inl (.int, 4, .inl sideX)) else if a = sy then some (.inl (.int, 4, .inl sideY)) else if a = b then some (.inl (.int, L, .inl xs)) else none), lw_ts), ?_⟩
  have hsc : ∃ (N : Nat) (f : Nat → Int32), (if b = sx then some (.inl (.int, 4, .inl sideX)) else if b = sy then some (.inl (.int, 4, .inl sideY)) else if b = b then some (.inl (.int, L, .inl xs)) else none : Option px_E) = some (.inl (.int, N, .inl f)) ∧ N ≤ 2563 := by
    by_cases q1 : b = sx
    · exact ⟨4, sideX, by rw [if_pos q1], by decide⟩
    · by_cases q2 : b = sy
      · exact ⟨4, sideY, by rw [if_neg q1, if_pos q2], by decide⟩
      · exact ⟨L, xs, by rw [if_neg q1, if_neg q2, if_pos rfl], hL⟩
  obtain ⟨N, f, hf, hN⟩ := hsc
  refine ⟨N, f, rfl, rfl, ⟨⟨rfl, rfl⟩, ⟨words, hK, fun a e ha => ?_⟩, ⟨sx, sy, Zx, Zy, ?_, ?_⟩, ⟨fun a U hW hU => ⟨⟨?_, ?_⟩, ls_moved hW.alike hU (hts _ (lm_2 (List.mem_of_getElem? (i := 139) rfl))), ls_moved hW.alike hU (hts _ (lm_2 (List.mem_of_getElem? (i := 141) rfl)))⟩, fun k tx hm => ?_⟩⟩, ⟨⟨words _ (List.mem_filter.mpr ⟨(lm_2 (List.mem_of_getElem? (i := 114) rfl)), rfl⟩), words _ (List.mem_filter.mpr ⟨(lm_2 (List.mem_of_getElem? (i := 204) rfl)), rfl⟩), words _ (List.mem_filter.mpr ⟨(lm_2 (List.mem_of_getElem? (i := 220) rfl)), rfl⟩)⟩, hnc _ _ (hs _ (by decide +kernel)), hnc _ _ (hs _ (by decide +kernel)), hnc _ _ (hs _ (by decide +kernel))⟩, hf, hN⟩
  · change (if a = sx then some (.inl (.int, 4, .inl sideX)) else if a = sy then some (.inl (.int, 4, .inl sideY)) else if a = b then some (.inl (.int, L, .inl xs)) else none : Option px_E) = some e at ha
    by_cases q1 : a = sx
    · rw [if_pos q1] at ha
      cases ha
      rw [q1]
      exact ⟨hlt x1, cx, x1, x2, trivial, x3, ⟨x4, x5⟩, x6⟩
    · rw [if_neg q1] at ha
      by_cases q2 : a = sy
      · rw [if_pos q2] at ha
        cases ha
        rw [q2]
        exact ⟨hlt y1, cy, y1, y2, trivial, y3, ⟨y4, y5⟩, y6⟩
      · rw [if_neg q2] at ha
        by_cases q3 : a = b
        · rw [if_pos q3] at ha
          cases ha
          rw [q3]
          exact ⟨hb, cb, b1, b2, trivial, b3, ⟨Nat.le_of_eq b4.symm, by rw [b4]⟩, b5⟩
        · rw [if_neg q3] at ha
          cases ha
  · exact if_pos rfl
  · show (if sy = sx then some (.inl (.int, 4, .inl sideX)) else if sy = sy then some (.inl (.int, 4, .inl sideY)) else if sy = b then some (.inl (.int, L, .inl xs)) else none : Option px_E) = _
    rw [if_neg hxy, if_pos rfl]
  · rcases Z1 with h | ⟨t, h⟩
    · exact st_ref (Or.inl rfl) ((h.kept (H1 := U.heap) (fun a ha _ => hU a ha)).moved hW.alike)
    · exact st_ref (Or.inr ⟨t, rfl⟩) ((h.kept (H1 := U.heap) (fun a ha _ => hU a ha)).moved hW.alike)
  · rcases Z2 with h | ⟨t, h⟩
    · exact st_ref (Or.inl rfl) ((h.kept (H1 := U.heap) (fun a ha _ => hU a ha)).moved hW.alike)
    · exact st_ref (Or.inr ⟨t, rfl⟩) ((h.kept (H1 := U.heap) (fun a ha _ => hU a ha)).moved hW.alike)
  · have h1 := hts _ hm
    have hk : k ∈ [66, 77, 86, 92, 96, 106, 111, 116, 130, 147, 171, 177, 202, 204, 206, 208] := of_decide_eq_true (tbl_str _ hm) rfl
    have hx : (Cond.exactly (.string "VisitorSteps" k) "java/lang/String").before #[Value.ref b] s = true := by
      simp only [List.mem_cons, List.not_mem_nil, or_false] at hk
      rcases hk with rfl | rfl | rfl | rfl | rfl | rfl | rfl | rfl | rfl | rfl | rfl | rfl | rfl | rfl | rfl | rfl
      all_goals exact hs _ (by decide +kernel)
    obtain ⟨q, c, cell, kk, q1, -⟩ := Cond.exactly_spec hx
    exact ⟨q, vk_R.of h1 q1⟩
end STA
