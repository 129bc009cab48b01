/-! THE LAW: what each call does to both -/
def RLx (z zm zo : Nat) (h w wt μ : Nat → Nat → Int32) (ta : Nat → Int32) (o : Nat → Int64) (wd ht nt nd tl nw : Nat) (π : px_H) : Prop := (z + 63 ≤ zm ∧ zm + 22 ≤ zo) ∧ RV z (12 * ht) h w wt ta π ∧ RM zm μ π ∧ π.2 zo = some (px_oe o) ∧ RE h w μ ta wd ht nt nd tl nw
def RL (z zm zo : Nat) (π : px_H) : Prop := ∃ (h w wt μ : Nat → Nat → Int32) (ta : Nat → Int32) (o : Nat → Int64) (wd ht nt nd tl nw : Nat), RLx z zm zo h w wt μ ta o wd ht nt nd tl nw π
def RT (z zm zo : Nat) (c : Int32) (b : Option Int32) (π : px_H) : Prop := ∃ (h w wt μ : Nat → Nat → Int32) (ta : Nat → Int32) (o : Nat → Int64) (wd ht nt nd tl nw : Nat), RLx z zm zo h w wt μ ta o wd ht nt nd tl nw π ∧ μ 0 0 = c ∧ ∀ b', b = some b' → c = 0 → o 0 = b'.toInt64
/-- the model's call that comes next answers as the helper's code says -/
def OPM (l : Launch) (G : px_Cg) (z zm zo : Nat) (y : MethodName) (bb : ByteArray) (ml : Nat) (ret : Option FieldType) (rm : Room) (av : List Value) (pb : Int32 → Prop) (c : Int32) (π1 : px_H) : Prop := (∃ μ, RM zm μ π1) ∧ ∀ K', (∀ b π2, pb b → RT z zm zo c (some b) π2 → K' (.inl (some (.int b))) π2) → px_P l G y bb ml ret rm true av π1 K'
def OPN (l : Launch) (G : px_Cg) (z zm zo : Nat) (y : MethodName) (bb : ByteArray) (ml : Nat) (rm : Room) (av : List Value) (c : Int32) (π1 : px_H) : Prop := (∃ μ, RM zm μ π1) ∧ ∀ K', (∀ π2, RT z zm zo c none π2 → K' (.inl none) π2) → px_P l G y bb ml none rm true av π1 K'
section OPS
variable {l : Launch} {G : px_Cg} {π π1 : px_H} {K : Option Value ⊕ String → px_H → Prop} {z zm zo n nt nd wd ht tl nw : Nat} {h w wt μ : Nat → Nat → Int32} {ta : Nat → Int32} {o : Nat → Int64} {x1 x2 x3 x4 c : Int32}
theorem RV.cg {π' : px_H} (R : RV z n h w wt ta π) (E : ∀ a, z ≤ a → a < z + 63 → π'.2 a = π.2 a) : RV z n h w wt ta π' :=
  ⟨(E z (Nat.le_refl z) (by omega)).trans R.1, fun k hk => (E _ (by omega) (by omega)).trans (R.2.1 k hk), fun k hk => (E _ (by omega) (by omega)).trans (R.2.2.1 k hk), fun k hk => (E _ (by omega) (by omega)).trans (R.2.2.2.1 k hk), (E _ (by omega) (by omega)).trans R.2.2.2.2⟩
theorem RM.cg {π' : px_H} (R : RM zm μ π) (E : ∀ a, zm ≤ a → a < zm + 22 → π'.2 a = π.2 a) : RM zm μ π' := fun k hk => (E _ (by omega) (by omega)).trans (R k hk)
theorem out_st (hz : z + 63 ≤ zm ∧ zm + 22 ≤ zo) (hV : RV z n h w wt ta π) (hM : RM zm μ π) {v : Int64} : RV z n h w wt ta (wrO π zo o v) ∧ RM zm μ (wrO π zo o v) ∧ ∃ o', (wrO π zo o v).2 zo = some (px_oe o') ∧ o' 0 = v :=
  ⟨hV.cg (fun a _ _ => px_wr_ne (by omega)), RM.cg hM (fun a _ _ => px_wr_ne (by omega)), _, px_wr_self, by simp [vp_updL]⟩
theorem cls_st (hz : z + 63 ≤ zm ∧ zm + 22 ≤ zo) (hM : RM zm μ π) (ho : π.2 zo = some (px_oe o)) {h' w' wt' : Nat → Nat → Int32} {ta' : Nat → Int32} (S : SV z n h' w' wt' ta' π π1) : RM zm μ π1 ∧ π1.2 zo = some (px_oe o) :=
  ⟨RM.cg hM (fun a _ _ => S.2.2 a (Or.inr (by omega))), (S.2.2 zo (Or.inr (by omega))).trans ho⟩
theorem OPM.of {y : MethodName} {bb : ByteArray} {ml : Nat} {ret : Option FieldType} {rm : Room} {av : List Value} {pb : Int32 → Prop} (hz : z + 63 ≤ zm ∧ zm + 22 ≤ zo) (hV : RV z (12 * ht) h w wt ta π) (hM : RM zm μ π) (ho : π.2 zo = some (px_oe o))
    (md : ∀ K', (∀ μ' b π2, SM zm μ' π π2 → pb b → RE h w μ' ta wd ht nt nd tl nw → μ' 0 0 = c → (c = 0 → o 0 = b.toInt64) → K' (.inl (some (.int b))) π2) → px_P l G y bb ml ret rm true av π K') : OPM l G z zm zo y bb ml ret rm av pb c π :=
  ⟨⟨μ, hM⟩, fun K' k => md K' (fun μ' b π2 S hp R hc hb => k b π2 hp ⟨h, w, wt, μ', ta, o, wd, ht, nt, nd, tl, nw, ⟨hz, hV.cg (fun a _ _ => S.2.2 a (Or.inl (by omega))), S.1, (S.2.2 zo (Or.inr (by omega))).trans ho, R⟩, hc, fun b' e q => by cases e; exact hb q⟩)⟩
theorem OPN.of {y : MethodName} {bb : ByteArray} {ml : Nat} {rm : Room} {av : List Value} (hz : z + 63 ≤ zm ∧ zm + 22 ≤ zo) (hV : RV z (12 * ht) h w wt ta π) (hM : RM zm μ π) (ho : π.2 zo = some (px_oe o))
    (md : ∀ K', (∀ μ' π2, SM zm μ' π π2 → RE h w μ' ta wd ht nt nd tl nw → μ' 0 0 = c → K' (.inl none) π2) → px_P l G y bb ml none rm true av π K') : OPN l G z zm zo y bb ml rm av c π :=
  ⟨⟨μ, hM⟩, fun K' k => md K' (fun μ' π2 S R hc => k π2 ⟨h, w, wt, μ', ta, o, wd, ht, nt, nd, tl, nw, ⟨hz, hV.cg (fun a _ _ => S.2.2 a (Or.inl (by omega))), S.1, (S.2.2 zo (Or.inr (by omega))).trans ho, R⟩, hc, fun b' e q => by cases e⟩)⟩
theorem ab_eq {a b a' b' : Nat} (hw : wd ≤ 12) (hh : ht ≤ 12) (ha : a < wd) (hb : b < ht) (ha' : a' < wd) (hb' : b' < ht) (ea : x1 = nI a) (eb : x2 = nI b) (ea' : x1 = nI a') (eb' : x2 = nI b') : 12 * b + a = 12 * b' + a' := by
  have h1 := (nI_eq (by omega) (by omega)).mp (ea.symm.trans ea')
  have h2 := (nI_eq (by omega) (by omega)).mp (eb.symm.trans eb')
  rw [h1, h2]
theorem c01 : (0 ≤ x1 ∧ x1 ≤ 1) ↔ (x1 = 0 ∨ x1 = 1) := by
  constructor
  · rintro ⟨h1, h2⟩
    obtain ⟨m, m1, m2⟩ := nI_of2 (x := x1) (M := 1) (n := 1) rfl (fun q => k2_nlt h1 q) h2
    rw [m2]
    obtain rfl | rfl : m = 0 ∨ m = 1 := by omega
    · exact Or.inl rfl
    · exact Or.inr rfl
  · rintro (rfl | rfl) <;> decide
theorem c02 : (0 ≤ x1 ∧ x1 ≤ 2) ↔ (x1 = 0 ∨ x1 = 1 ∨ x1 = 2) := by
  constructor
  · rintro ⟨h1, h2⟩
    obtain ⟨m, m1, m2⟩ := nI_of2 (x := x1) (M := 2) (n := 2) rfl (fun q => k2_nlt h1 q) h2
    rw [m2]
    obtain rfl | rfl | rfl : m = 0 ∨ m = 1 ∨ m = 2 := by omega
    · exact Or.inl rfl
    · exact Or.inr (Or.inl rfl)
    · exact Or.inr (Or.inr rfl)
  · rintro (rfl | rfl | rfl) <;> decide
theorem c05 : (0 ≤ x1 ∧ x1 ≤ 5) ↔ (x1 = 0 ∨ x1 = 1 ∨ x1 = 2 ∨ x1 = 3 ∨ x1 = 4 ∨ x1 = 5) := by
  constructor
  · rintro ⟨h1, h2⟩
    obtain ⟨m, m1, m2⟩ := nI_of2 (x := x1) (M := 5) (n := 5) rfl (fun q => k2_nlt h1 q) h2
    rw [m2]
    obtain rfl | rfl | rfl | rfl | rfl | rfl : m = 0 ∨ m = 1 ∨ m = 2 ∨ m = 3 ∨ m = 4 ∨ m = 5 := by omega
    · exact Or.inl rfl
    · exact Or.inr (Or.inl rfl)
    · exact Or.inr (Or.inr (Or.inl rfl))
    · exact Or.inr (Or.inr (Or.inr (Or.inl rfl)))
    · exact Or.inr (Or.inr (Or.inr (Or.inr (Or.inl rfl))))
    · exact Or.inr (Or.inr (Or.inr (Or.inr (Or.inr rfl))))
  · rintro (rfl | rfl | rfl | rfl | rfl | rfl) <;> decide
theorem RE.ft (R : RE h w μ ta wd ht nt nd tl nw) {f : Nat → Int32} {μ' : Nat → Nat → Int32} (C' : CH (upr h 3 f) μ' wd ht nt nd) (E : FrE 3 μ μ') (hf : fIN f nt) : RE (upr h 3 f) w μ' ta wd ht nt nd tl nw := by
  obtain ⟨B, S, I, z4, C, W, Q, m9, w1, nw4, T, m5, L, F⟩ := R
  exact ⟨HG_upr B, HS_upr S hf, I, z4, C', (W.e I.1.2.1 E (Or.inr rfl)).h3, Q.e B.1.2.2.2.2.2.1.2 E, by rw [E.1 9 (by decide)]; exact m9, w1, nw4, T, by rw [E.2.1 5 (by decide) (by decide) (by decide)]; exact m5, L, F.e E⟩
theorem op_crowd (A : GA G) (hfl : FL l) (Hc : CAT G) (Rx : RLx z zm zo h w wt μ ta o wd ht nt nd tl nw π) (k : ∀ c π1, OPM l G z zm zo y_M_crowd b_M_crowd 3 (some .int) (px_rm 2 44) [.ref zm, .int x1, .int x2] (fun _ => True) c π1 → K (.inl (some (.int c))) π1) :
    px_PH l G y_L_crowd b_L_crowd 5 (some .int) hs_L_crowd (px_rt 8 170 2) true [.ref z, .int x1, .int x2, .ref zo] π K := by
  obtain ⟨hz, hV, hM, ho, R⟩ := Rx
  obtain ⟨B, S, I, z4, C, W, Q, m9, w1, nw4, T, m5, L, F⟩ := id R
  obtain ⟨⟨b0, b1, b2, b3, b4, b5, b6, b7, b8, b9⟩, BD⟩ := id B
  have htl := I.1.2.1
  refine t_L_crowd A Hc ⟨_, hV.1⟩ (fun K' hK => t_V_crowd A hfl hV B.1 (fun a b ha hb ea eb => hK _ _ (Or.inl ⟨_, o, rfl, ho, k 0 _ ?_⟩)) (fun q z' _ => hK _ _ (Or.inr ⟨_, _, rfl, List.mem_cons_self, k 1 _ ?_⟩)))
  · obtain ⟨hV2, hM2, o2, ho2, hv2⟩ := out_st (o := o) hz hV hM
    refine OPM.of (wd := wd) (nt := nt) (nd := nd) (tl := tl) (nw := nw) hz hV2 hM2 ho2 (fun K' kk => t_M_crowd A (RM.self hM2) C.1 C.2.1 b4.2 b5.2 W.1 htl (fun a' c' ha' hc' ea' ec' π2 S2 => kk _ _ _ S2 trivial (R.e FrE.t0) up2_s (fun _ => hv2.trans (congrArg Int32.toInt64 ?_))) (fun q => absurd ⟨a, b, ha, hb, ea, eb⟩ q))
    rw [ab_eq b4.2 b5.2 ha hb ha' hc' ea eb ea' ec']
    exact (W.cr I.2.2.1 (inC_lt (inC_ab (ht := ht) b4.2 ha' hc'))).symm
  · exact OPM.of (wd := wd) (nt := nt) (nd := nd) (tl := tl) (nw := nw) (π := (z', π.2)) hz hV hM ho (fun K' kk => t_M_crowd A (RM.self hM) C.1 C.2.1 b4.2 b5.2 W.1 htl (fun a' c' ha' hc' ea' ec' π2 S2 => absurd ⟨a', c', ha', hc', ea', ec'⟩ q) (fun _ π2 S2 => kk _ _ _ S2 trivial (R.e FrE.t0) up2_s (fun e => absurd e (by decide))))
theorem op_stayed (A : GA G) (hfl : FL l) (Hc : CAT G) (Rx : RLx z zm zo h w wt μ ta o wd ht nt nd tl nw π) (k : ∀ c π1, OPM l G z zm zo y_M_stayed b_M_stayed 3 (some .int) (px_rm 2 44) [.ref zm, .int x1, .int x2] (fun _ => True) c π1 → K (.inl (some (.int c))) π1) :
    px_PH l G y_L_stayed b_L_stayed 5 (some .int) hs_L_stayed (px_rt 8 170 2) true [.ref z, .int x1, .int x2, .ref zo] π K := by
  obtain ⟨hz, hV, hM, ho, R⟩ := Rx
  obtain ⟨B, S, I, z4, C, W, Q, m9, w1, nw4, T, m5, L, F⟩ := id R
  obtain ⟨⟨b0, b1, b2, b3, b4, b5, b6, b7, b8, b9⟩, BD⟩ := id B
  have htl := I.1.2.1
  refine t_L_stayed A Hc ⟨_, hV.1⟩ (fun K' hK => t_V_stayed A hfl hV B.1 (fun a b ha hb ea eb => hK _ _ (Or.inl ⟨_, o, rfl, ho, k 0 _ ?_⟩)) (fun q z' _ => hK _ _ (Or.inr ⟨_, _, rfl, List.mem_cons_self, k 1 _ ?_⟩)))
  · obtain ⟨hV2, hM2, o2, ho2, hv2⟩ := out_st (o := o) hz hV hM
    refine OPM.of (wd := wd) (nt := nt) (nd := nd) (tl := tl) (nw := nw) hz hV2 hM2 ho2 (fun K' kk => t_M_stayed A (RM.self hM2) C.1 C.2.1 b4.2 b5.2 (fun a' c' ha' hc' ea' ec' π2 S2 => kk _ _ _ S2 trivial (R.e FrE.t0) up2_s (fun _ => hv2.trans (congrArg Int32.toInt64 ?_))) (fun q => absurd ⟨a, b, ha, hb, ea, eb⟩ q))
    rw [ab_eq b4.2 b5.2 ha hb ha' hc' ea eb ea' ec']
    exact ((Q rfl).1 _ (inC_lt (inC_ab (ht := ht) b4.2 ha' hc'))).symm
  · exact OPM.of (wd := wd) (nt := nt) (nd := nd) (tl := tl) (nw := nw) (π := (z', π.2)) hz hV hM ho (fun K' kk => t_M_stayed A (RM.self hM) C.1 C.2.1 b4.2 b5.2 (fun a' c' ha' hc' ea' ec' π2 S2 => absurd ⟨a', c', ha', hc', ea', ec'⟩ q) (fun _ π2 S2 => kk _ _ _ S2 trivial (R.e FrE.t0) up2_s (fun e => absurd e (by decide))))
theorem op_through (A : GA G) (hfl : FL l) (Hc : CAT G) (Rx : RLx z zm zo h w wt μ ta o wd ht nt nd tl nw π) (k : ∀ c π1, OPM l G z zm zo y_M_through b_M_through 3 (some .int) (px_rm 1 23) [.ref zm, .int x1, .int x2] (fun _ => True) c π1 → K (.inl (some (.int c))) π1) :
    px_PH l G y_L_through b_L_through 5 (some .int) hs_L_through (px_rt 8 170 2) true [.ref z, .int x1, .int x2, .ref zo] π K := by
  obtain ⟨hz, hV, hM, ho, R⟩ := Rx
  obtain ⟨B, S, I, z4, C, W, Q, m9, w1, nw4, T, m5, L, F⟩ := id R
  obtain ⟨⟨b0, b1, b2, b3, b4, b5, b6, b7, b8, b9⟩, BD⟩ := id B
  have htl := I.1.2.1
  refine t_L_through A Hc ⟨_, hV.1⟩ (fun K' hK => t_V_through A hfl hV B.1 (fun d hd ed => hK _ _ (Or.inl ⟨_, o, rfl, ho, k 0 _ ?_⟩)) (fun q z' _ => hK _ _ (Or.inr ⟨_, _, rfl, List.mem_cons_self, k 1 _ ?_⟩)))
  · obtain ⟨hV2, hM2, o2, ho2, hv2⟩ := out_st (o := o) hz hV hM
    refine OPM.of (wd := wd) (nt := nt) (nd := nd) (tl := tl) (nw := nw) hz hV2 hM2 ho2 (fun K' kk => t_M_through A (RM.self hM2) C.2.2.2.2.1 b7 (fun d' hd' ed' π2 S2 => kk _ _ _ S2 trivial (R.e FrE.t0) up2_s (fun _ => hv2.trans (congrArg Int32.toInt64 ?_))) (fun q => absurd ⟨d, hd, ed⟩ q))
    have e := (nI_eq (by omega) (by omega)).mp (ed.symm.trans ed')
    subst e
    rw [((Q rfl).2 d (by omega)).1, ((Q rfl).2 d (by omega)).2]
  · exact OPM.of (wd := wd) (nt := nt) (nd := nd) (tl := tl) (nw := nw) (π := (z', π.2)) hz hV hM ho (fun K' kk => t_M_through A (RM.self hM) C.2.2.2.2.1 b7 (fun d' hd' ed' π2 S2 => absurd ⟨d', hd', ed'⟩ q) (fun _ π2 S2 => kk _ _ _ S2 trivial (R.e FrE.t0) up2_s (fun e => absurd e (by decide))))
theorem op_seen (A : GA G) (hfl : FL l) (Hc : CAT G) (Rx : RLx z zm zo h w wt μ ta o wd ht nt nd tl nw π) (k : ∀ c π1, OPM l G z zm zo y_M_seen b_M_seen 2 (some .int) (px_rm 1 23) [.ref zm, .int x1] (fun _ => True) c π1 → K (.inl (some (.int c))) π1) :
    px_PH l G y_L_seen b_L_seen 4 (some .int) hs_L_seen (px_rt 8 170 2) true [.ref z, .int x1, .ref zo] π K := by
  obtain ⟨hz, hV, hM, ho, R⟩ := Rx
  obtain ⟨B, S, I, z4, C, W, Q, m9, w1, nw4, T, m5, L, F⟩ := id R
  obtain ⟨⟨b0, b1, b2, b3, b4, b5, b6, b7, b8, b9⟩, BD⟩ := id B
  have htl := I.1.2.1
  refine t_L_seen A Hc ⟨_, hV.1⟩ (fun K' hK => t_V_seen A hfl hV B.1 (fun t ht6 et => hK _ _ (Or.inl ⟨_, o, rfl, ho, k 0 _ ?_⟩)) (fun q z' _ => hK _ _ (Or.inr ⟨_, _, rfl, List.mem_cons_self, k 1 _ ?_⟩)))
  · obtain ⟨hV2, hM2, o2, ho2, hv2⟩ := out_st (o := o) hz hV hM
    refine OPM.of (wd := wd) (nt := nt) (nd := nd) (tl := tl) (nw := nw) hz hV2 hM2 ho2 (fun K' kk => t_M_seen A (RM.self hM2) C.2.2.2.1 b6 W.1 htl (fun t' ht' et' π2 S2 => kk _ _ _ S2 trivial (R.e FrE.t0) up2_s (fun _ => hv2.trans (congrArg Int32.toInt64 ?_))) (fun q => absurd ⟨t, ht6, et⟩ q))
    have e := (nI_eq (by omega) (by omega)).mp (et.symm.trans et')
    subst e
    exact (W.sn I (by omega)).symm
  · exact OPM.of (wd := wd) (nt := nt) (nd := nd) (tl := tl) (nw := nw) (π := (z', π.2)) hz hV hM ho (fun K' kk => t_M_seen A (RM.self hM) C.2.2.2.1 b6 W.1 htl (fun t' ht' et' π2 S2 => absurd ⟨t', ht', et'⟩ q) (fun _ π2 S2 => kk _ _ _ S2 trivial (R.e FrE.t0) up2_s (fun e => absurd e (by decide))))
theorem op_interest (A : GA G) (hfl : FL l) (Hc : CAT G) (Rx : RLx z zm zo h w wt μ ta o wd ht nt nd tl nw π) (k : ∀ c π1, OPM l G z zm zo y_M_interest b_M_interest 2 (some .int) (px_rm 1 23) [.ref zm, .int x1] (fun _ => True) c π1 → K (.inl (some (.int c))) π1) :
    px_PH l G y_L_interest b_L_interest 4 (some .int) hs_L_interest (px_rt 8 170 2) true [.ref z, .int x1, .ref zo] π K := by
  obtain ⟨hz, hV, hM, ho, R⟩ := Rx
  obtain ⟨B, S, I, z4, C, W, Q, m9, w1, nw4, T, m5, L, F⟩ := id R
  obtain ⟨⟨b0, b1, b2, b3, b4, b5, b6, b7, b8, b9⟩, BD⟩ := id B
  have htl := I.1.2.1
  refine t_L_interest A Hc ⟨_, hV.1⟩ (fun K' hK => t_V_interest A hfl hV B.1 (fun t ht6 et => hK _ _ (Or.inl ⟨_, o, rfl, ho, k 0 _ ?_⟩)) (fun q z' _ => hK _ _ (Or.inr ⟨_, _, rfl, List.mem_cons_self, k 1 _ ?_⟩)))
  · obtain ⟨hV2, hM2, o2, ho2, hv2⟩ := out_st (o := o) hz hV hM
    refine OPM.of (wd := wd) (nt := nt) (nd := nd) (tl := tl) (nw := nw) hz hV2 hM2 ho2 (fun K' kk => t_M_interest A (RM.self hM2) C.2.2.2.1 b6 (fun t' ht' et' π2 S2 => kk _ _ _ S2 trivial (R.e FrE.t0) up2_s (fun _ => hv2.trans (congrArg Int32.toInt64 ?_))) (fun q => absurd ⟨t, ht6, et⟩ q))
    have e := (nI_eq (by omega) (by omega)).mp (et.symm.trans et')
    subst e
    exact (C.2.2.2.2.2.2.2.2.1 t ht6).2.1.symm
  · exact OPM.of (wd := wd) (nt := nt) (nd := nd) (tl := tl) (nw := nw) (π := (z', π.2)) hz hV hM ho (fun K' kk => t_M_interest A (RM.self hM) C.2.2.2.1 b6 (fun t' ht' et' π2 S2 => absurd ⟨t', ht', et'⟩ q) (fun _ π2 S2 => kk _ _ _ S2 trivial (R.e FrE.t0) up2_s (fun e => absurd e (by decide))))
theorem op_at (A : GA G) (hfl : FL l) (Hc : CAT G) (Rx : RLx z zm zo h w wt μ ta o wd ht nt nd tl nw π) (k : ∀ c π1, OPM l G z zm zo y_M_at b_M_at 3 (some .int) (px_rm 2 43) [.ref zm, .int x1, .int x2] (fun _ => True) c π1 → K (.inl (some (.int c))) π1) :
    px_PH l G y_L_at b_L_at 5 (some .int) hs_L_at (px_rt 8 170 2) true [.ref z, .int x1, .int x2, .ref zo] π K := by
  obtain ⟨hz, hV, hM, ho, R⟩ := Rx
  obtain ⟨B, S, I, z4, C, W, Q, m9, w1, nw4, T, m5, L, F⟩ := id R
  obtain ⟨⟨b0, b1, b2, b3, b4, b5, b6, b7, b8, b9⟩, BD⟩ := id B
  have htl := I.1.2.1
  refine t_L_at A Hc ⟨_, hV.1⟩ (fun K' hK => t_V_at A hfl hV I.1 (fun i hi ei ha => hK _ _ (Or.inl ⟨_, o, rfl, ho, k 0 _ ?_⟩)) (fun q z' _ => hK _ _ (Or.inr ⟨_, _, rfl, List.mem_cons_self, k 1 _ ?_⟩)))
  · obtain ⟨hV2, hM2, o2, ho2, hv2⟩ := out_st (o := o) hz hV hM
    refine OPM.of (wd := wd) (nt := nt) (nd := nd) (tl := tl) (nw := nw) hz hV2 hM2 ho2 (fun K' kk => t_M_at A (RM.self hM2) W.1 htl (fun i' hi' ei' h0 h1 π2 S2 => kk _ _ _ S2 trivial (R.e FrE.t0) up2_s (fun _ => hv2.trans (congrArg Int32.toInt64 ?_))) (fun q => absurd ⟨⟨i, hi, ei⟩, c01.mpr ha⟩ q))
    have e := (nI_eq (by omega) (by omega)).mp (ei.symm.trans ei')
    subst e
    exact re_at R hi
  · exact OPM.of (wd := wd) (nt := nt) (nd := nd) (tl := tl) (nw := nw) (π := (z', π.2)) hz hV hM ho (fun K' kk => t_M_at A (RM.self hM) W.1 htl (fun i' hi' ei' h0 h1 π2 S2 => absurd ⟨⟨i', hi', ei'⟩, c01.mp ⟨h0, h1⟩⟩ q) (fun _ π2 S2 => kk _ _ _ S2 trivial (R.e FrE.t0) up2_s (fun e => absurd e (by decide))))
theorem op_about (A : GA G) (hfl : FL l) (Hc : CAT G) (Rx : RLx z zm zo h w wt μ ta o wd ht nt nd tl nw π) (k : ∀ c π1, OPM l G z zm zo y_M_about b_M_about 3 (some .int) (px_rm 2 43) [.ref zm, .int x1, .int x2] (fun _ => True) c π1 → K (.inl (some (.int c))) π1) :
    px_PH l G y_L_about b_L_about 5 (some .int) hs_L_about (px_rt 8 170 2) true [.ref z, .int x1, .int x2, .ref zo] π K := by
  obtain ⟨hz, hV, hM, ho, R⟩ := Rx
  obtain ⟨B, S, I, z4, C, W, Q, m9, w1, nw4, T, m5, L, F⟩ := id R
  obtain ⟨⟨b0, b1, b2, b3, b4, b5, b6, b7, b8, b9⟩, BD⟩ := id B
  have htl := I.1.2.1
  refine t_L_about A Hc ⟨_, hV.1⟩ (fun K' hK => t_V_about A hfl hV I.1 (fun i hi ei ha => hK _ _ (Or.inl ⟨_, o, rfl, ho, k 0 _ ?_⟩)) (fun q z' _ => hK _ _ (Or.inr ⟨_, _, rfl, List.mem_cons_self, k 1 _ ?_⟩)))
  · obtain ⟨hV2, hM2, o2, ho2, hv2⟩ := out_st (o := o) hz hV hM
    refine OPM.of (wd := wd) (nt := nt) (nd := nd) (tl := tl) (nw := nw) hz hV2 hM2 ho2 (fun K' kk => t_M_about A (RM.self hM2) W.1 htl (fun i' hi' ei' h0 h1 π2 S2 => kk _ _ _ S2 trivial (R.e FrE.t0) up2_s (fun _ => hv2.trans (congrArg Int32.toInt64 ?_))) (fun q => absurd ⟨⟨i, hi, ei⟩, c02.mpr ha⟩ q))
    have e := (nI_eq (by omega) (by omega)).mp (ei.symm.trans ei')
    subst e
    exact re_about R hi
  · exact OPM.of (wd := wd) (nt := nt) (nd := nd) (tl := tl) (nw := nw) (π := (z', π.2)) hz hV hM ho (fun K' kk => t_M_about A (RM.self hM) W.1 htl (fun i' hi' ei' h0 h1 π2 S2 => absurd ⟨⟨i', hi', ei'⟩, c02.mp ⟨h0, h1⟩⟩ q) (fun _ π2 S2 => kk _ _ _ S2 trivial (R.e FrE.t0) up2_s (fun e => absurd e (by decide))))
theorem op_count (A : GA G) (hfl : FL l) (Hc : CAT G) (Rx : RLx z zm zo h w wt μ ta o wd ht nt nd tl nw π) (k : ∀ c π1, OPM l G z zm zo y_M_count b_M_count 4 (some .int) (px_rm 1 23) [.ref zm, .int x1] (fun _ => True) c π1 → K (.inl (some (.int c))) π1) :
    px_PH l G y_L_count b_L_count 4 (some .int) hs_L_count (px_rt 8 170 2) true [.ref z, .int x1, .ref zo] π K := by
  obtain ⟨hz, hV, hM, ho, R⟩ := Rx
  obtain ⟨B, S, I, z4, C, W, Q, m9, w1, nw4, T, m5, L, F⟩ := id R
  obtain ⟨⟨b0, b1, b2, b3, b4, b5, b6, b7, b8, b9⟩, BD⟩ := id B
  have htl := I.1.2.1
  refine t_L_count A Hc ⟨_, hV.1⟩ (fun K' hK => t_V_count A hfl hV I.1 (fun ha => hK _ _ (Or.inl ⟨_, o, rfl, ho, k 0 _ ?_⟩)) (fun q z' _ => hK _ _ (Or.inr ⟨_, _, rfl, List.mem_cons_self, k 1 _ ?_⟩)))
  · obtain ⟨hV2, hM2, o2, ho2, hv2⟩ := out_st (o := o) hz hV hM
    refine OPM.of (wd := wd) (nt := nt) (nd := nd) (tl := tl) (nw := nw) hz hV2 hM2 ho2 (fun K' kk => t_M_count A (RM.self hM2) W.1 htl (fun h0 h1 π2 S2 => kk _ _ _ S2 trivial (R.e FrE.t0) up2_s (fun _ => hv2.trans (congrArg Int32.toInt64 ?_))) (fun q => absurd (c05.mpr ha) q))
    exact re_count R ha
  · exact OPM.of (wd := wd) (nt := nt) (nd := nd) (tl := tl) (nw := nw) (π := (z', π.2)) hz hV hM ho (fun K' kk => t_M_count A (RM.self hM) W.1 htl (fun h0 h1 π2 S2 => absurd (c05.mp ⟨h0, h1⟩) q) (fun _ π2 S2 => kk _ _ _ S2 trivial (R.e FrE.t0) up2_s (fun e => absurd e (by decide))))
theorem op_far (A : GA G) (hfl : FL l) (Hc : CAT G) (Rx : RLx z zm zo h w wt μ ta o wd ht nt nd tl nw π) (k : ∀ c π1, OPM l G z zm zo y_M_far b_M_far 5 (some .int) (px_rm 4 92) [.ref zm, .int x1, .int x2, .int x3] (fun _ => True) c π1 → K (.inl (some (.int c))) π1) :
    px_PH l G y_L_far b_L_far 6 (some .int) hs_L_far (px_rt 8 170 2) true [.ref z, .int x1, .int x2, .int x3, .ref zo] π K := by
  obtain ⟨hz, hV, hM, ho, R⟩ := Rx
  obtain ⟨B, S, I, z4, C, W, Q, m9, w1, nw4, T, m5, L, F⟩ := id R
  obtain ⟨⟨b0, b1, b2, b3, b4, b5, b6, b7, b8, b9⟩, BD⟩ := id B
  have htl := I.1.2.1
  have qi : (∃ q, isQ nt nd x3 q) ↔ ((∃ t, t < nt ∧ x3 = nI t) ∨ ∃ d, d < nd ∧ x3 = nI (10 + d)) := by
    constructor
    · rintro ⟨q, ⟨q1, q2⟩ | ⟨d, d1, d2, d3⟩⟩
      · exact Or.inl ⟨q, q1, q2⟩
      · exact Or.inr ⟨d, d1, d3⟩
    · rintro (⟨t, t1, t2⟩ | ⟨d, d1, d2⟩)
      · exact ⟨t, Or.inl ⟨t1, t2⟩⟩
      · exact ⟨6 + d, Or.inr ⟨d, d1, rfl, d2⟩⟩
  have qu : ∀ q q', isQ nt nd x3 q → isQ nt nd x3 q' → q = q' := by
    rintro q q' (⟨q1, q2⟩ | ⟨d, d1, d2, d3⟩) (⟨r1, r2⟩ | ⟨e, e1, e2, e3⟩)
    · exact (nI_eq (by omega) (by omega)).mp (q2.symm.trans r2)
    · have := (nI_eq (by omega) (by omega)).mp (q2.symm.trans e3)
      omega
    · have := (nI_eq (by omega) (by omega)).mp (d3.symm.trans r2)
      omega
    · have := (nI_eq (by omega) (by omega)).mp (d3.symm.trans e3)
      omega
  refine t_L_far A Hc ⟨_, hV.1⟩ (fun K' hK => t_V_far A hfl hV B.1 (fun a b q ha hb ea eb hq => hK _ _ (Or.inl ⟨_, o, rfl, ho, k 0 _ ?_⟩)) (fun q z' _ => hK _ _ (Or.inr ⟨_, _, rfl, List.mem_cons_self, k 1 _ ?_⟩)))
  · obtain ⟨hV2, hM2, o2, ho2, hv2⟩ := out_st (o := o) hz hV hM
    refine OPM.of (wd := wd) (nt := nt) (nd := nd) (tl := tl) (nw := nw) hz hV2 hM2 ho2 (fun K' kk => t_M_far A (RM.self hM2) C B (fun a' c' q' ha' hc' ea' ec' hq' f π2 S2 => kk _ _ _ S2 trivial (R.e (FrE.t0.tr FrE.ur)) (by rw [upr_n (by decide), up2_s]) (fun _ => hv2.trans (congrArg Int32.toInt64 ?_))) (fun q1 => absurd ⟨⟨a, b, ha, hb, ea, eb⟩, q, hq⟩ q1))
    rw [ab_eq b4.2 b5.2 ha hb ha' hc' ea eb ea' ec', qu q q' hq hq']
  · exact OPM.of (wd := wd) (nt := nt) (nd := nd) (tl := tl) (nw := nw) (π := (z', π.2)) hz hV hM ho (fun K' kk => t_M_far A (RM.self hM) C B (fun a' c' q' ha' hc' ea' ec' hq' f π2 S2 => absurd ⟨⟨a', c', ha', hc', ea', ec'⟩, qi.mp ⟨q', hq'⟩⟩ q) (fun _ π2 S2 => kk _ _ _ S2 trivial (R.e FrE.t0) up2_s (fun e => absurd e (by decide))))
theorem op_room (A : GA G) (hfl : FL l) (Hc : CAT G) (Rx : RLx z zm zo h w wt μ ta o wd ht nt nd tl nw π) (k : ∀ c π1, OPM l G z zm zo y_M_room b_M_room 3 (some .int) (px_rm 1 23) [.ref zm, .int x1] (fun _ => True) c π1 → K (.inl (some (.int c))) π1) :
    px_PH l G y_L_room b_L_room 4 (some .int) hs_L_room (px_rt 8 170 2) true [.ref z, .int x1, .ref zo] π K := by
  obtain ⟨hz, hV, hM, ho, R⟩ := Rx
  obtain ⟨B, S, I, z4, C, W, Q, m9, w1, nw4, T, m5, L, F⟩ := id R
  obtain ⟨⟨b0, b1, b2, b3, b4, b5, b6, b7, b8, b9⟩, BD⟩ := id B
  have htl := I.1.2.1
  refine t_L_room A Hc ⟨_, hV.1⟩ (fun K' hK => t_V_room A hfl hV (fun h1 h2 π1 S1 => hK _ _ (Or.inl ⟨_, o, rfl, (cls_st hz hM ho S1).2, k 0 _ ?_⟩)) (fun q z' _ => hK _ _ (Or.inr ⟨_, _, rfl, List.mem_cons_self, k 1 _ ?_⟩)))
  · obtain ⟨hV2, hM2, o2, ho2, hv2⟩ := out_st (o := o) hz S1.1 (cls_st hz hM ho S1).1
    exact OPM.of (wd := wd) (nt := nt) (nd := nd) (tl := tl) (nw := nw) hz hV2 hM2 ho2 (fun K' kk => t_M_room A (RM.self hM2) (fun g1 g2 π2 S2 => kk _ _ _ S2 trivial ((R.e FrE.t0).rp (x := x1) (Or.inl ⟨rfl, rfl⟩)) (by rw [up2_n (by decide), up2_s]) (fun _ => hv2.trans (congrArg Int32.toInt64 C.2.2.2.2.2.1.symm))) (fun q => absurd ⟨h1, h2⟩ q))
  · exact OPM.of (wd := wd) (nt := nt) (nd := nd) (tl := tl) (nw := nw) (π := (z', π.2)) hz hV hM ho (fun K' kk => t_M_room A (RM.self hM) (fun g1 g2 => absurd ⟨g1, g2⟩ q) (fun _ π2 S2 => kk _ _ _ S2 trivial (R.e FrE.t0) up2_s (fun e => absurd e (by decide))))
theorem op_patience (A : GA G) (hfl : FL l) (Hc : CAT G) (Rx : RLx z zm zo h w wt μ ta o wd ht nt nd tl nw π) (k : ∀ c π1, OPM l G z zm zo y_M_patience b_M_patience 3 (some .int) (px_rm 1 23) [.ref zm, .int x1] (fun _ => True) c π1 → K (.inl (some (.int c))) π1) :
    px_PH l G y_L_patience b_L_patience 4 (some .int) hs_L_patience (px_rt 8 170 2) true [.ref z, .int x1, .ref zo] π K := by
  obtain ⟨hz, hV, hM, ho, R⟩ := Rx
  obtain ⟨B, S, I, z4, C, W, Q, m9, w1, nw4, T, m5, L, F⟩ := id R
  obtain ⟨⟨b0, b1, b2, b3, b4, b5, b6, b7, b8, b9⟩, BD⟩ := id B
  have htl := I.1.2.1
  refine t_L_patience A Hc ⟨_, hV.1⟩ (fun K' hK => t_V_patience A hfl hV (fun h1 h2 π1 S1 => hK _ _ (Or.inl ⟨_, o, rfl, (cls_st hz hM ho S1).2, k 0 _ ?_⟩)) (fun q z' _ => hK _ _ (Or.inr ⟨_, _, rfl, List.mem_cons_self, k 1 _ ?_⟩)))
  · obtain ⟨hV2, hM2, o2, ho2, hv2⟩ := out_st (o := o) hz S1.1 (cls_st hz hM ho S1).1
    exact OPM.of (wd := wd) (nt := nt) (nd := nd) (tl := tl) (nw := nw) hz hV2 hM2 ho2 (fun K' kk => t_M_patience A (RM.self hM2) (fun g1 g2 π2 S2 => kk _ _ _ S2 trivial ((R.e FrE.t0).rp (x := x1) (Or.inr ⟨rfl, rfl⟩)) (by rw [up2_n (by decide), up2_s]) (fun _ => hv2.trans (congrArg Int32.toInt64 C.2.2.2.2.2.2.1.symm))) (fun q => absurd ⟨h1, h2⟩ q))
  · exact OPM.of (wd := wd) (nt := nt) (nd := nd) (tl := tl) (nw := nw) (π := (z', π.2)) hz hV hM ho (fun K' kk => t_M_patience A (RM.self hM) (fun g1 g2 => absurd ⟨g1, g2⟩ q) (fun _ π2 S2 => kk _ _ _ S2 trivial (R.e FrE.t0) up2_s (fun e => absurd e (by decide))))
theorem op_counted (A : GA G) (hfl : FL l) (Hc : CAT G) (Rx : RLx z zm zo h w wt μ ta o wd ht nt nd tl nw π) (k : ∀ c π1, OPN l G z zm zo y_M_counted b_M_counted 3 (px_rm 1 23) [.ref zm, .int x1, .int x2] c π1 → K (.inl (some (.int c))) π1) :
    px_PH l G y_L_counted b_L_counted 4 (some .int) hs_L_counted (px_rt 8 170 2) true [.ref z, .int x1, .int x2] π K := by
  obtain ⟨hz, hV, hM, ho, R⟩ := Rx
  obtain ⟨B, S, I, z4, C, W, Q, m9, w1, nw4, T, m5, L, F⟩ := id R
  obtain ⟨⟨b0, b1, b2, b3, b4, b5, b6, b7, b8, b9⟩, BD⟩ := id B
  have htl := I.1.2.1
  refine t_L_counted A Hc ⟨_, hV.1⟩ (fun K' hK => t_V_counted A hfl hV B.1 (fun t ht6 et h1 h2 π1 S1 => hK _ _ (Or.inl ⟨rfl, k 0 _ ?_⟩)) (fun q z' _ => hK _ _ (Or.inr ⟨_, _, rfl, List.mem_cons_self, k 1 _ ?_⟩)) (fun q1 q2 z' _ => hK _ _ (Or.inr ⟨_, _, rfl, (List.mem_cons_of_mem _ List.mem_cons_self), k 2 _ ?_⟩)))
  · obtain ⟨hM1, ho1⟩ := cls_st hz hM ho S1
    refine OPN.of (wd := wd) (nt := nt) (nd := nd) (tl := tl) (nw := nw) hz S1.1 hM1 ho1 (fun K' kk => t_M_counted A (RM.self hM1) C.2.2.2.1 b6 (fun t' ht' et' g1 g2 π2 S2 => ?_) (fun q => absurd ⟨t, ht6, et⟩ q) (fun _ q => absurd ⟨h1, h2⟩ q))
    have e := (nI_eq (by omega) (by omega)).mp (et.symm.trans et')
    subst e
    exact kk _ _ S2 ((R.e FrE.t0).ct ⟨h1, h2⟩) (by rw [up2_n (Or.inl (by decide)), up2_s])
  · exact OPN.of (wd := wd) (nt := nt) (nd := nd) (tl := tl) (nw := nw) (π := (z', π.2)) hz hV hM ho (fun K' kk => t_M_counted A (RM.self hM) C.2.2.2.1 b6 (fun t' ht' et' => absurd ⟨t', ht', et'⟩ q) (fun _ π2 S2 => kk _ _ S2 (R.e FrE.t0) up2_s) (fun q3 => absurd q3 q))
  · exact OPN.of (wd := wd) (nt := nt) (nd := nd) (tl := tl) (nw := nw) (π := (z', π.2)) hz hV hM ho (fun K' kk => t_M_counted A (RM.self hM) C.2.2.2.1 b6 (fun t' ht' et' g1 g2 => absurd ⟨g1, g2⟩ q2) (fun q3 => absurd q1 q3) (fun _ _ π2 S2 => kk _ _ S2 (R.e FrE.t0) up2_s))
theorem op_run (A : GA G) (hfl : FL l) (Hc : CAT G) (Rx : RLx z zm zo h w wt μ ta o wd ht nt nd tl nw π) (k : ∀ c π1, OPM l G z zm zo y_M_run b_M_run 3 (some .int) (px_rm 6 153) [.ref zm, .int x1] (fun _ => True) c π1 → K (.inl (some (.int c))) π1) :
    px_PH l G y_L_run b_L_run 4 (some .int) hs_L_run (px_rt 8 170 2) true [.ref z, .int x1, .ref zo] π K := by
  obtain ⟨hz, hV, hM, ho, R⟩ := Rx
  obtain ⟨B, S, I, z4, C, W, Q, m9, w1, nw4, T, m5, L, F⟩ := id R
  obtain ⟨⟨b0, b1, b2, b3, b4, b5, b6, b7, b8, b9⟩, BD⟩ := id B
  have htl := I.1.2.1
  refine t_L_run A Hc ⟨_, hV.1⟩ (fun K' hK => t_V_run A hfl hV B.1 I.1 w1 nw4 (fun s es s1 s2 s3 π1 S1 => hK _ _ (Or.inl ⟨_, o, rfl, (cls_st hz hM ho S1).2, k 0 _ ?_⟩)) (fun q z' _ => hK _ _ (Or.inr ⟨_, _, rfl, List.mem_cons_self, k 1 _ ?_⟩)))
  · obtain ⟨hV2, hM2, o2, ho2, hv2⟩ := out_st (o := o) hz S1.1 (cls_st hz hM ho S1).1
    refine OPM.of (wd := wd) (nt := nt) (nd := nd) (tl := tl) (nw := nw + s) hz hV2 hM2 ho2 (fun K' kk => t_M_run (b := true) A (RM.self hM2) C B S I W Q z4 (m9.trans w1.symm) w1 nw4 (fun s' es' s1' s2' s3' μ' π2 W' Q' h9 h0 E S2 => ?_) (fun q => absurd ⟨s, es, s1, s2, s3⟩ q))
    have e := (nI_eq (by omega) (by omega)).mp (es.symm.trans es')
    subst e
    exact kk _ _ _ S2 trivial (R.rn s3 W' Q' h9 E) h0 (fun _ => hv2)
  · exact OPM.of (wd := wd) (nt := nt) (nd := nd) (tl := tl) (nw := nw) (π := (z', π.2)) hz hV hM ho (fun K' kk => t_M_run (b := true) A (RM.self (π := (z', π.2)) hM) C B S I W Q z4 (m9.trans w1.symm) w1 nw4 (fun s' es' s1' s2' s3' => absurd ⟨s', es', s1', s2', s3'⟩ q) (fun _ π2 S2 => kk _ _ _ S2 trivial (R.e FrE.t0) up2_s (fun e => absurd e (by decide))))
theorem op_arrives (A : GA G) (hfl : FL l) (Hc : CAT G) (Rx : RLx z zm zo h w wt μ ta o wd ht nt nd tl nw π) (k : ∀ c π1, OPM l G z zm zo y_M_arrives b_M_arrives 4 (some .int) (px_rm 1 23) [.ref zm, .int x1, .int x2, .int x3] (fun _ => True) c π1 → K (.inl (some (.int c))) π1) :
    px_PH l G y_L_arrives b_L_arrives 6 (some .int) hs_L_arrives (px_rt 8 170 2) true [.ref z, .int x1, .int x2, .int x3, .ref zo] π K := by
  obtain ⟨hz, hV, hM, ho, R⟩ := Rx
  obtain ⟨B, S, I, z4, C, W, Q, m9, w1, nw4, T, m5, L, F⟩ := id R
  obtain ⟨⟨b0, b1, b2, b3, b4, b5, b6, b7, b8, b9⟩, BD⟩ := id B
  have htl := I.1.2.1
  refine t_L_arrives A Hc ⟨_, hV.1⟩ (fun K' hK => t_V_arrives A hfl hV B.1 I.1.1 htl (fun d hd ed h1 h2 h3 h4 h5 π1 S1 => hK _ _ (Or.inl ⟨_, o, rfl, (cls_st hz hM ho S1).2, k 0 _ ?_⟩)) (fun q z' _ => hK _ _ (Or.inr ⟨_, _, rfl, List.mem_cons_self, k 1 _ ?_⟩)) (fun q1 q2 z' _ => hK _ _ (Or.inr ⟨_, _, rfl, (List.mem_cons_of_mem _ List.mem_cons_self), k 2 _ ?_⟩)) (fun q1 q2 q3 z' _ => hK _ _ (Or.inr ⟨_, _, rfl, (List.mem_cons_of_mem _ (List.mem_cons_of_mem _ List.mem_cons_self)), k 3 _ ?_⟩)))
  · obtain ⟨hV2, hM2, o2, ho2, hv2⟩ := out_st (o := o) hz S1.1 (cls_st hz hM ho S1).1
    have e9 : μ 0 9 ≤ x1 := by rw [m9, ← w1]; exact h1
    refine OPM.of (wd := wd) (nt := nt) (nd := nd) (tl := tl + 1) (nw := nw) hz hV2 hM2 ho2 (fun K' kk => t_M_arrives A (RM.self hM2) C.2.2.2.2.1 b7 W.1 htl (fun d' hd' ed' g1 g2 π2 S2 => ?_) (fun q => absurd ⟨d, hd, ed⟩ q) (fun _ q => absurd ⟨⟨e9, h2⟩, h3, h4⟩ q) (fun _ _ q => absurd h5 q))
    have e := (nI_eq (by omega) (by omega)).mp (ed.symm.trans ed')
    subst e
    exact kk _ _ _ S2 trivial ((R.e FrE.t0).ar h5 hd ⟨h3, h4⟩) (by rw [up2_n (by decide), up2_r (by decide), up2_r (by decide), up2_r (by decide), up2_s]) (fun _ => hv2)
  · exact OPM.of (wd := wd) (nt := nt) (nd := nd) (tl := tl) (nw := nw) (π := (z', π.2)) hz hV hM ho (fun K' kk => t_M_arrives A (RM.self hM) C.2.2.2.2.1 b7 W.1 htl (fun d' hd' ed' => absurd ⟨d', hd', ed'⟩ q) (fun _ π2 S2 => kk _ _ _ S2 trivial (R.e FrE.t0) up2_s (fun e => absurd e (by decide))) (fun q3 => absurd q3 q) (fun q3 => absurd q3 q))
  · have e9 : ¬ ((μ 0 9 ≤ x1 ∧ x1 ≤ 400) ∧ 0 ≤ x3 ∧ x3 ≤ 3) := by rw [m9, ← w1]; exact q2
    exact OPM.of (wd := wd) (nt := nt) (nd := nd) (tl := tl) (nw := nw) (π := (z', π.2)) hz hV hM ho (fun K' kk => t_M_arrives A (RM.self hM) C.2.2.2.2.1 b7 W.1 htl (fun d' hd' ed' g1 => absurd g1 e9) (fun q3 => absurd q1 q3) (fun _ _ π2 S2 => kk _ _ _ S2 trivial (R.e FrE.t0) up2_s (fun e => absurd e (by decide))) (fun _ q3 => absurd q3 e9))
  · have e9 : ((μ 0 9 ≤ x1 ∧ x1 ≤ 400) ∧ 0 ≤ x3 ∧ x3 ≤ 3) := by rw [m9, ← w1]; exact q2
    exact OPM.of (wd := wd) (nt := nt) (nd := nd) (tl := tl) (nw := nw) (π := (z', π.2)) hz hV hM ho (fun K' kk => t_M_arrives A (RM.self hM) C.2.2.2.2.1 b7 W.1 htl (fun d' hd' ed' g1 g2 => absurd g2 q3) (fun q4 => absurd q1 q4) (fun _ q4 => absurd e9 q4) (fun _ _ _ π2 S2 => kk _ _ _ S2 trivial (R.e FrE.t0) up2_s (fun e => absurd e (by decide))))
theorem op_wall (A : GA G) (hfl : FL l) (Hc : CAT G) (Rx : RLx z zm zo h w wt μ ta o wd ht nt nd tl nw π) (hv : narrow .boolean (.int x3) = .int x3) (k : ∀ c π1, OPM l G z zm zo y_M_wall b_M_wall 7 (some .boolean) (px_rm 2 44) [.ref zm, .int x1, .int x2, .int x3] (fun b => b = 0 ∨ b = 1) c π1 → K (.inl (some (.int c))) π1) :
    px_PH l G y_L_wall b_L_wall 6 (some .int) hs_L_wall (px_rt 8 170 2) true [.ref z, .int x1, .int x2, .int x3, .ref zo] π K := by
  obtain ⟨hz, hV, hM, ho, R⟩ := Rx
  obtain ⟨B, S, I, z4, C, W, Q, m9, w1, nw4, T, m5, L, F⟩ := id R
  obtain ⟨⟨b0, b1, b2, b3, b4, b5, b6, b7, b8, b9⟩, BD⟩ := id B
  have htl := I.1.2.1
  refine t_L_wall A Hc ⟨_, hV.1⟩ (fun K' hK => t_V_wall A hfl hV B.1 hv (fun a b ha hb ea eb wb => hK _ _ (Or.inl ⟨_, o, rfl, ho, k 0 _ ?_⟩)) (fun a b ha hb ea eb wb h' π1 N B' S1 => hK _ _ (Or.inl ⟨_, o, rfl, (cls_st hz hM ho S1).2, k 0 _ ?_⟩)) (fun q z' _ => hK _ _ (Or.inr ⟨_, _, rfl, List.mem_cons_self, k 1 _ ?_⟩)))
  · obtain ⟨hV2, hM2, o2, ho2, hv2⟩ := out_st (o := o) hz hV hM
    refine OPM.of (wd := wd) (nt := nt) (nd := nd) (tl := tl) (nw := nw) hz hV2 hM2 ho2 (fun K' kk => t_M_wall A (RM.self hM2) C.1 C.2.1 b4.2 b5.2 C.2.2.2.1 b6 C.2.2.2.2.1 b7 W.1 htl hv (fun a' c' ha' hc' ea' ec' g π2 S2 => kk _ _ _ S2 (Or.inl rfl) (R.e FrE.t0) up2_s (fun _ => hv2.trans (by decide))) (fun a' c' ha' hc' ea' ec' g => absurd ?_ g) (fun q => absurd ⟨a, b, ha, hb, ea, eb⟩ q))
    rw [ab_eq b4.2 b5.2 ha hb ha' hc' ea eb ea' ec'] at wb
    exact (wl_iff R (inC_lt (inC_ab (ht := ht) b4.2 ha' hc'))).mp wb
  · obtain ⟨hV2, hM2, o2, ho2, hv2⟩ := out_st (o := o) hz S1.1 (cls_st hz hM ho S1).1
    refine OPM.of (wd := wd) (nt := nt) (nd := nd) (tl := tl) (nw := nw) hz hV2 hM2 ho2 (fun K' kk => t_M_wall A (RM.self hM2) C.1 C.2.1 b4.2 b5.2 C.2.2.2.1 b6 C.2.2.2.2.1 b7 W.1 htl hv (fun a' c' ha' hc' ea' ec' g => absurd ?_ wb) (fun a' c' ha' hc' ea' ec' g π2 S2 => ?_) (fun q => absurd ⟨a, b, ha, hb, ea, eb⟩ q))
    · rw [ab_eq b4.2 b5.2 ha hb ha' hc' ea eb ea' ec']
      exact (wl_iff R (inC_lt (inC_ab (ht := ht) b4.2 ha' hc'))).mpr g
    · rw [ab_eq b4.2 b5.2 ha hb ha' hc' ea eb ea' ec'] at N
      exact kk _ _ _ S2 (Or.inr rfl) ((R.e FrE.t0).wl N B') (by rw [up2_n (Or.inl (by decide)), up2_s]) (fun _ => hv2.trans (by decide))
  · exact OPM.of (wd := wd) (nt := nt) (nd := nd) (tl := tl) (nw := nw) (π := (z', π.2)) hz hV hM ho (fun K' kk => t_M_wall A (RM.self hM) C.1 C.2.1 b4.2 b5.2 C.2.2.2.1 b6 C.2.2.2.2.1 b7 W.1 htl hv (fun a' c' ha' hc' ea' ec' => absurd ⟨a', c', ha', hc', ea', ec'⟩ q) (fun a' c' ha' hc' ea' ec' => absurd ⟨a', c', ha', hc', ea', ec'⟩ q) (fun _ π2 S2 => kk _ _ _ S2 (Or.inl rfl) (R.e FrE.t0) up2_s (fun e => absurd e (by decide))))
theorem op_thing (A : GA G) (hfl : FL l) (Hc : CAT G) (Rx : RLx z zm zo h w wt μ ta o wd ht nt nd tl nw π) (k : ∀ c π1, OPM l G z zm zo y_M_thing b_M_thing 5 (some .int) (px_rm 2 44) [.ref zm, .int x1, .int x2, .int x3, .int x4] (fun _ => True) c π1 → K (.inl (some (.int c))) π1) :
    px_PH l G y_L_thing b_L_thing 7 (some .int) hs_L_thing (px_rt 8 170 2) true [.ref z, .int x1, .int x2, .int x3, .int x4, .ref zo] π K := by
  obtain ⟨hz, hV, hM, ho, R⟩ := Rx
  obtain ⟨B, S, I, z4, C, W, Q, m9, w1, nw4, T, m5, L, F⟩ := id R
  obtain ⟨⟨b0, b1, b2, b3, b4, b5, b6, b7, b8, b9⟩, BD⟩ := id B
  have htl := I.1.2.1
  have cw : ∀ a' c' : Nat, a' < wd → c' < ht → μ 1 (12 * c' + a') = h 1 (12 * c' + a') := fun a' c' h1 h2 => C.2.2.2.2.2.2.2.1 _ (inC_lt (inC_ab (ht := ht) b4.2 h1 h2))
  refine t_L_thing A Hc ⟨_, hV.1⟩ (fun K' hK => t_V_thing A hfl hV B (fun a b ha hb ea eb hi h6 hw1 => hK _ _ (Or.inl ⟨_, o, rfl, ho, k 0 _ ?_⟩)) (fun a b ha hb ea eb hi h6 hw1 h' π1 N B' S1 => hK _ _ (Or.inl ⟨_, o, rfl, (cls_st hz hM ho S1).2, k 0 _ ?_⟩)) (fun q z' _ => hK _ _ (Or.inr ⟨_, _, rfl, List.mem_cons_self, k 1 _ ?_⟩)) (fun q1 q2 z' _ => hK _ _ (Or.inr ⟨_, _, rfl, (List.mem_cons_of_mem _ List.mem_cons_self), k 2 _ ?_⟩)) (fun q1 q2 q3 z' _ => hK _ _ (Or.inr ⟨_, _, rfl, (List.mem_cons_of_mem _ (List.mem_cons_of_mem _ List.mem_cons_self)), k 3 _ ?_⟩)))
  · obtain ⟨hV2, hM2, o2, ho2, hv2⟩ := out_st (o := o) hz hV hM
    refine OPM.of (wd := wd) (nt := nt) (nd := nd) (tl := tl) (nw := nw) hz hV2 hM2 ho2 (fun K' kk => t_M_thing A (RM.self hM2) C.1 C.2.1 b4.2 b5.2 C.2.2.2.1 b6 (fun a' c' ha' hc' ea' ec' g1 g2 g3 π2 S2 => kk _ _ _ S2 trivial (R.e FrE.t0) up2_s (fun _ => hv2)) (fun a' c' ha' hc' ea' ec' g1 g2 g3 => absurd ?_ hw1) (fun q => absurd ⟨a, b, ha, hb, ea, eb⟩ q) (fun _ q => absurd hi q) (fun _ _ q => absurd h6 q))
    rw [ab_eq b4.2 b5.2 ha hb ha' hc' ea eb ea' ec', ← cw a' c' ha' hc']
    exact g3
  · obtain ⟨hV2, hM2, o2, ho2, hv2⟩ := out_st (o := o) hz S1.1 (cls_st hz hM ho S1).1
    refine OPM.of (wd := wd) (nt := nt + 1) (nd := nd) (tl := tl) (nw := nw) hz hV2 hM2 ho2 (fun K' kk => t_M_thing A (RM.self hM2) C.1 C.2.1 b4.2 b5.2 C.2.2.2.1 b6 (fun a' c' ha' hc' ea' ec' g1 g2 g3 => absurd ?_ g3) (fun a' c' ha' hc' ea' ec' g1 g2 g3 π2 S2 => ?_) (fun q => absurd ⟨a, b, ha, hb, ea, eb⟩ q) (fun _ q => absurd hi q) (fun _ _ q => absurd h6 q))
    · rw [cw a' c' ha' hc', ← ab_eq b4.2 b5.2 ha hb ha' hc' ea eb ea' ec']
      exact hw1
    · rw [ab_eq b4.2 b5.2 ha hb ha' hc' ea eb ea' ec'] at N
      exact kk _ _ _ S2 trivial ((R.e FrE.t0).th ⟨hi.1, hi.2.1⟩ N B') (by rw [up2_n (by decide), up2_r (by decide), up2_r (by decide), up2_r (by decide), up2_s]) (fun _ => hv2)
  · exact OPM.of (wd := wd) (nt := nt) (nd := nd) (tl := tl) (nw := nw) (π := (z', π.2)) hz hV hM ho (fun K' kk => t_M_thing A (RM.self hM) C.1 C.2.1 b4.2 b5.2 C.2.2.2.1 b6 (fun a' c' ha' hc' ea' ec' => absurd ⟨a', c', ha', hc', ea', ec'⟩ q) (fun a' c' ha' hc' ea' ec' => absurd ⟨a', c', ha', hc', ea', ec'⟩ q) (fun _ π2 S2 => kk _ _ _ S2 trivial (R.e FrE.t0) up2_s (fun e => absurd e (by decide))) (fun q3 => absurd q3 q) (fun q3 => absurd q3 q))
  · exact OPM.of (wd := wd) (nt := nt) (nd := nd) (tl := tl) (nw := nw) (π := (z', π.2)) hz hV hM ho (fun K' kk => t_M_thing A (RM.self hM) C.1 C.2.1 b4.2 b5.2 C.2.2.2.1 b6 (fun a' c' ha' hc' ea' ec' g1 => absurd g1 q2) (fun a' c' ha' hc' ea' ec' g1 => absurd g1 q2) (fun q3 => absurd q1 q3) (fun _ _ π2 S2 => kk _ _ _ S2 trivial (R.e FrE.t0) up2_s (fun e => absurd e (by decide))) (fun _ q3 => absurd q3 q2))
  · exact OPM.of (wd := wd) (nt := nt) (nd := nd) (tl := tl) (nw := nw) (π := (z', π.2)) hz hV hM ho (fun K' kk => t_M_thing A (RM.self hM) C.1 C.2.1 b4.2 b5.2 C.2.2.2.1 b6 (fun a' c' ha' hc' ea' ec' g1 g2 => absurd g2 q3) (fun a' c' ha' hc' ea' ec' g1 g2 => absurd g2 q3) (fun q4 => absurd q1 q4) (fun _ q4 => absurd q2 q4) (fun _ _ _ π2 S2 => kk _ _ _ S2 trivial (R.e FrE.t0) up2_s (fun e => absurd e (by decide))))
theorem op_door (A : GA G) (hfl : FL l) (Hc : CAT G) (Rx : RLx z zm zo h w wt μ ta o wd ht nt nd tl nw π) (k : ∀ c π1, OPM l G z zm zo y_M_door b_M_door 3 (some .int) (px_rm 2 44) [.ref zm, .int x1, .int x2] (fun _ => True) c π1 → K (.inl (some (.int c))) π1) :
    px_PH l G y_L_door b_L_door 5 (some .int) hs_L_door (px_rt 8 170 2) true [.ref z, .int x1, .int x2, .ref zo] π K := by
  obtain ⟨hz, hV, hM, ho, R⟩ := Rx
  obtain ⟨B, S, I, z4, C, W, Q, m9, w1, nw4, T, m5, L, F⟩ := id R
  obtain ⟨⟨b0, b1, b2, b3, b4, b5, b6, b7, b8, b9⟩, BD⟩ := id B
  have htl := I.1.2.1
  have cw : ∀ a' c' : Nat, a' < wd → c' < ht → μ 1 (12 * c' + a') = h 1 (12 * c' + a') := fun a' c' h1 h2 => C.2.2.2.2.2.2.2.1 _ (inC_lt (inC_ab (ht := ht) b4.2 h1 h2))
  refine t_L_door A Hc ⟨_, hV.1⟩ (fun K' hK => t_V_door A hfl hV B (fun a b ha hb ea eb h6 hw1 => hK _ _ (Or.inl ⟨_, o, rfl, ho, k 0 _ ?_⟩)) (fun a b ha hb ea eb h6 hw1 h' π1 N B' S1 => hK _ _ (Or.inl ⟨_, o, rfl, (cls_st hz hM ho S1).2, k 0 _ ?_⟩)) (fun q z' _ => hK _ _ (Or.inr ⟨_, _, rfl, List.mem_cons_self, k 1 _ ?_⟩)) (fun q1 q2 z' _ => hK _ _ (Or.inr ⟨_, _, rfl, (List.mem_cons_of_mem _ List.mem_cons_self), k 2 _ ?_⟩)))
  · obtain ⟨hV2, hM2, o2, ho2, hv2⟩ := out_st (o := o) hz hV hM
    refine OPM.of (wd := wd) (nt := nt) (nd := nd) (tl := tl) (nw := nw) hz hV2 hM2 ho2 (fun K' kk => t_M_door A (RM.self hM2) C.1 C.2.1 b4.2 b5.2 C.2.2.2.2.1 b7 (fun a' c' ha' hc' ea' ec' g2 g3 π2 S2 => kk _ _ _ S2 trivial (R.e FrE.t0) up2_s (fun _ => hv2)) (fun a' c' ha' hc' ea' ec' g2 g3 => absurd ?_ hw1) (fun q => absurd ⟨a, b, ha, hb, ea, eb⟩ q) (fun _ q => absurd h6 q))
    rw [ab_eq b4.2 b5.2 ha hb ha' hc' ea eb ea' ec', ← cw a' c' ha' hc']
    exact g3
  · obtain ⟨hV2, hM2, o2, ho2, hv2⟩ := out_st (o := o) hz S1.1 (cls_st hz hM ho S1).1
    refine OPM.of (wd := wd) (nt := nt) (nd := nd + 1) (tl := tl) (nw := nw) hz hV2 hM2 ho2 (fun K' kk => t_M_door A (RM.self hM2) C.1 C.2.1 b4.2 b5.2 C.2.2.2.2.1 b7 (fun a' c' ha' hc' ea' ec' g2 g3 => absurd ?_ g3) (fun a' c' ha' hc' ea' ec' g2 g3 π2 S2 => ?_) (fun q => absurd ⟨a, b, ha, hb, ea, eb⟩ q) (fun _ q => absurd h6 q))
    · rw [cw a' c' ha' hc', ← ab_eq b4.2 b5.2 ha hb ha' hc' ea eb ea' ec']
      exact hw1
    · rw [ab_eq b4.2 b5.2 ha hb ha' hc' ea eb ea' ec'] at N
      exact kk _ _ _ S2 trivial ((R.e FrE.t0).dr N B') (by rw [up2_n (by decide), up2_r (by decide), up2_s]) (fun _ => hv2)
  · exact OPM.of (wd := wd) (nt := nt) (nd := nd) (tl := tl) (nw := nw) (π := (z', π.2)) hz hV hM ho (fun K' kk => t_M_door A (RM.self hM) C.1 C.2.1 b4.2 b5.2 C.2.2.2.2.1 b7 (fun a' c' ha' hc' ea' ec' => absurd ⟨a', c', ha', hc', ea', ec'⟩ q) (fun a' c' ha' hc' ea' ec' => absurd ⟨a', c', ha', hc', ea', ec'⟩ q) (fun _ π2 S2 => kk _ _ _ S2 trivial (R.e FrE.t0) up2_s (fun e => absurd e (by decide))) (fun q3 => absurd q3 q))
  · exact OPM.of (wd := wd) (nt := nt) (nd := nd) (tl := tl) (nw := nw) (π := (z', π.2)) hz hV hM ho (fun K' kk => t_M_door A (RM.self hM) C.1 C.2.1 b4.2 b5.2 C.2.2.2.2.1 b7 (fun a' c' ha' hc' ea' ec' g2 => absurd g2 q2) (fun a' c' ha' hc' ea' ec' g2 => absurd g2 q2) (fun q4 => absurd q1 q4) (fun _ _ π2 S2 => kk _ _ _ S2 trivial (R.e FrE.t0) up2_s (fun e => absurd e (by decide))))
theorem op_fit (A : GA G) (hfl : FL l) (Hc : CAT G) (Rx : RLx z zm zo h w wt μ ta o wd ht nt nd tl nw π) (k : ∀ c π1, OPM l G z zm zo y_M_fit b_M_fit 5 (some .int) (px_rm 8 210) [.ref zm, .int x1] (fun _ => True) c π1 → K (.inl (some (.int c))) π1) :
    px_PH l G y_L_fit b_L_fit 4 (some .int) hs_L_fit (px_rt 8 170 2) true [.ref z, .int x1, .ref zo] π K := by
  obtain ⟨hz, hV, hM, ho, R⟩ := Rx
  obtain ⟨B, S, I, z4, C, W, Q, m9, w1, nw4, T, m5, L, F⟩ := id R
  obtain ⟨⟨b0, b1, b2, b3, b4, b5, b6, b7, b8, b9⟩, BD⟩ := id B
  have htl := I.1.2.1
  have fin : ∀ r, fIN (ftR (fun f => sqV (upr h 3 f) w (fun _ _ => 0) ta wd ht nt nd tl nw) nt r (h 3, (fun f => sqV (upr h 3 f) w (fun _ _ => 0) ta wd ht nt nd tl nw) (h 3), 0)).1 nt := by
    intro r
    rcases Nat.eq_zero_or_pos nt with e | e
    · intro t ht
      omega
    · rw [← ftK_R]
      exact (ftK_O (q := (h 3, (fun f => sqV (upr h 3 f) w (fun _ _ => 0) ta wd ht nt nd tl nw) (h 3), 0)) ⟨rfl, S.1⟩ (fun f hf => sqV_nn (HG_upr B) (HS_upr S hf).1 I w1 nw4 T) e (r * nt)).2
  refine t_L_fit A Hc ⟨_, hV.1⟩ (fun K' hK => t_V_fit A hfl hV B.1 I.1 w1 nw4 (sv := (fun f => sqV (upr h 3 f) w (fun _ _ => 0) ta wd ht nt nd tl nw)) (fun f wt => sqV_wt) (fun r er r1 r2 wt' π1 S1 => hK _ _ (Or.inl ⟨_, o, rfl, (cls_st hz hM ho S1).2, k 0 _ ?_⟩)) (fun q z' _ => hK _ _ (Or.inr ⟨_, _, rfl, List.mem_cons_self, k 1 _ ?_⟩)))
  · obtain ⟨hV2, hM2, o2, ho2, hv2⟩ := out_st (o := o) hz S1.1 (cls_st hz hM ho S1).1
    refine OPM.of (wd := wd) (nt := nt) (nd := nd) (tl := tl) (nw := nw) hz hV2 hM2 ho2 (fun K' kk => t_M_fit (wt := fun _ _ => 0) A (RM.self hM2) C B S I W m9 w1 nw4 m5 T (sv := (fun f => sqV (upr h 3 f) w (fun _ _ => 0) ta wd ht nt nd tl nw)) rfl (fun r' er' r1' r2' μ' π2 C' E z0 S2 => ?_) (fun q => absurd ⟨r, er, r1, r2⟩ q))
    have e := (nI_eq (by omega) (by omega)).mp (er.symm.trans er')
    subst e
    exact kk _ _ _ S2 trivial (R.ft C' E (fin r)) z0 (fun _ => hv2)
  · exact OPM.of (wd := wd) (nt := nt) (nd := nd) (tl := tl) (nw := nw) (π := (z', π.2)) hz hV hM ho (fun K' kk => t_M_fit (wt := fun _ _ => 0) A (RM.self (π := (z', π.2)) hM) C B S I W m9 w1 nw4 m5 T (sv := (fun f => sqV (upr h 3 f) w (fun _ _ => 0) ta wd ht nt nd tl nw)) rfl (fun r' er' r1' r2' => absurd ⟨r', er', r1', r2'⟩ q) (fun _ π2 S2 => kk _ _ _ S2 trivial (R.e FrE.t0) up2_s (fun e => absurd e (by decide))))
theorem op_escape (A : GA G) (Rx : RLx z zm zo h w wt μ ta o wd ht nt nd tl nw π) (k : ∀ v π1, (∃ μ, RM zm μ π1) → (∀ K', (∀ π2, RL z zm zo π2 → K' (.inl (some (.int v))) π2) → px_P l G y_M_escape b_M_escape 3 (some .int) (px_rm 6 153) true [.ref zm] π1 K') → K (.inl (some (.int v))) π1) :
    px_P l G y_V_escape b_V_escape 2 (some .int) (px_rm 5 114) true [.ref z] π K := by
  obtain ⟨hz, hV, hM, ho, R⟩ := Rx
  obtain ⟨B, S, I, z4, C, W, Q, m9, w1, nw4, T, m5, L, F⟩ := id R
  refine t_V_escape A hV B.1 I.1 (fun wt' π1 S1 => ?_)
  obtain ⟨hM1, ho1⟩ := cls_st hz hM ho S1
  refine k _ π1 ⟨μ, hM1⟩ (fun K' kk => t_M_escape (wt := wt) A (RM.self hM1) C B S I W (fun μ' π2 z0 E S2 => ?_))
  exact kk π2 ⟨h, w, wt', μ', ta, o, wd, ht, nt, nd, tl, nw, hz, S1.1.cg (fun a _ _ => S2.2.2 a (Or.inl (by omega))), S2.1, (S2.2.2 zo (Or.inr (by omega))).trans ho1, R.e E⟩
theorem op_sum (A : GA G) (Rx : RLx z zm zo h w wt μ ta o wd ht nt nd tl nw π) (k : ∀ v π1, (∃ μ, RM zm μ π1) → (∀ K', (∀ π2, RL z zm zo π2 → K' (.inl (some (.int v))) π2) → px_P l G y_M_sum b_M_sum 1 (some .int) (px_rm 7 180) true [.ref zm] π1 K') → K (.inl (some (.int v))) π1) :
    px_P l G y_V_sum b_V_sum 1 (some .int) (px_rm 6 138) true [.ref z] π K := by
  obtain ⟨hz, hV, hM, ho, R⟩ := Rx
  obtain ⟨B, S, I, z4, C, W, Q, m9, w1, nw4, T, m5, L, F⟩ := id R
  refine t_V_sum A hV B.1 I.1 w1 nw4 (fun wt' π1 S1 => ?_)
  obtain ⟨hM1, ho1⟩ := cls_st hz hM ho S1
  refine k _ π1 ⟨μ, hM1⟩ (fun K' kk => t_M_sum (wt := wt) A (RM.self hM1) C B S I W m9 w1 nw4 m5 (fun μ' π2 z0 E S2 => ?_))
  exact kk π2 ⟨h, w, wt', μ', ta, o, wd, ht, nt, nd, tl, nw, hz, S1.1.cg (fun a _ _ => S2.2.2 a (Or.inl (by omega))), S2.1, (S2.2.2 zo (Or.inr (by omega))).trans ho1, R.e E⟩
end OPS
