/-! THE CLASS: between, fit -/
def fcl (x : Int32) (a b : Int32) : Int32 := if (if b < x then b else x) < a then a else (if b < x then b else x)
section PGM
variable {Γ : px_Cm} {G : px_Cg} {Q : State → Prop} {cc : ByteArray} {own : String} {w : Bool} {nc ns pc q : Nat} {ls : List (Option Value)} {st : List Value} {π : px_H}
theorem pg_max (X : px_X Γ G cc own) {index : Nat} (hw : Cond.methodLink own index Lib.Math.max.name ∈ G.Ts) (hw2 : Cond.static Lib.Math.max.name ∈ G.Ts) (hw3 : Cond.initialized "java/lang/Math" ∈ G.Ts) (hw4 : Cond.code Lib.Math.max.name Lib.Math.max.code 2 (some .int) ∈ G.Ts) (hfr : 1 ≤ Γ.R.frames) (hlo : (st.map fun v => v.category).sum + 13 ≤ Γ.R.locals) (h1 : nc ≤ Γ.R.cells) (h2 : ns ≤ Γ.R.slots) (hd : px_D cc pc (.invokestatic index) 3 q) {x y : Int32} (kk : px_G Γ G Q w nc ns q ls (.int (if x < y then y else x) :: st) π) : px_G Γ G Q w nc ns pc ls (.int y :: .int x :: st) π := by
  obtain ⟨hd, rfl⟩ := hd
  exact fun H lsA locs hL hM hl => va_mmax X.1 X.2.1 hL.1.symm X.2.2.1 (X.word hw) (X.word hw2) (X.word hw3) (X.word hw4) hfr hlo h1 h2 hd (kk H lsA locs hL hM hl)
theorem pg_min (X : px_X Γ G cc own) {index : Nat} (hw : Cond.methodLink own index Lib.Math.min.name ∈ G.Ts) (hw2 : Cond.static Lib.Math.min.name ∈ G.Ts) (hw3 : Cond.initialized "java/lang/Math" ∈ G.Ts) (hw4 : Cond.code Lib.Math.min.name Lib.Math.min.code 2 (some .int) ∈ G.Ts) (hfr : 1 ≤ Γ.R.frames) (hlo : (st.map fun v => v.category).sum + 13 ≤ Γ.R.locals) (h1 : nc ≤ Γ.R.cells) (h2 : ns ≤ Γ.R.slots) (hd : px_D cc pc (.invokestatic index) 3 q) {x y : Int32} (kk : px_G Γ G Q w nc ns q ls (.int (if y < x then y else x) :: st) π) : px_G Γ G Q w nc ns pc ls (.int y :: .int x :: st) π := by
  obtain ⟨hd, rfl⟩ := hd
  exact fun H lsA locs hL hM hl => va_mmin X.1 X.2.1 hL.1.symm X.2.2.1 (X.word hw) (X.word hw2) (X.word hw3) (X.word hw4) hfr hlo h1 h2 hd (kk H lsA locs hL hM hl)
end PGM
section FIT
variable {l : Launch} {G : px_Cg} {π π0 π1 : px_H} {K : Option Value ⊕ String → px_H → Prop} {z n nt nd wd ht tl nw : Nat} {h w wt w' : Nat → Nat → Int32} {ta : Nat → Int32}
theorem t_V_between (A : GA G) {x a b : Int32} (k : K (.inl (some (.int (if a < (if x < b then x else b) then (if x < b then x else b) else a)))) π) : px_P l G y_V_between b_V_between 3 (some .int) (px_rm 1 21) false [.int x, .int a, .int b] π K := by
  have hG := A.1
  have hZ := A.2.1
  refine px_P.intro (by decide) hZ (by simp [Value.category]) (Nat.le_of_ble_eq_true rfl) rfl ?_
  intro Γ hl hR X Y hnm hs hbel
  subst hl
  refine pg_iload_n X d_V_between_0 rfl ?_
  refine pg_iload_n X d_V_between_1 rfl ?_
  refine pg_iload_n X d_V_between_2 rfl ?_
  refine pg_min X (hG.t (lm_1 (List.mem_of_getElem? (i := 28) rfl))) (hG.t (lm_1 (List.mem_of_getElem? (i := 29) rfl))) (hG.t (lm_1 (List.mem_of_getElem? (i := 3) rfl))) (hG.t (lm_1 (List.mem_of_getElem? (i := 30) rfl))) (by rw [hR]; decide) (by rw [hR]; exact Nat.le_of_ble_eq_true rfl) (by rw [hR]; decide) (by rw [hR]; decide) d_V_between_3 ?_
  refine pg_max X (hG.t (lm_1 (List.mem_of_getElem? (i := 31) rfl))) (hG.t (lm_1 (List.mem_of_getElem? (i := 32) rfl))) (hG.t (lm_1 (List.mem_of_getElem? (i := 3) rfl))) (hG.t (lm_1 (List.mem_of_getElem? (i := 33) rfl))) (by rw [hR]; decide) (by rw [hR]; exact Nat.le_of_ble_eq_true rfl) (by rw [hR]; decide) (by rw [hR]; decide) d_V_between_6 ?_
  exact pg_iret X Y d_V_between_9 rfl (by decide) (Nat.zero_le _) (Nat.zero_le _) (k)
def btw (x a b : Int32) : Int32 := if a < (if x < b then x else b) then (if x < b then x else b) else a
def ftT (sv : (Nat → Int32) → Int32) (t : Nat) (ch : Int32) (s : (Nat → Int32) × Int32 × Int32) : (Nat → Int32) × Int32 × Int32 :=
  if 0 < s.2.1 then (if (if btw (s.1 t + ch) 1 100 = s.1 t then s.2.1 else sv (upd s.1 t (btw (s.1 t + ch) 1 100))) < s.2.1 then (upd s.1 t (btw (s.1 t + ch) 1 100), (if btw (s.1 t + ch) 1 100 = s.1 t then s.2.1 else sv (upd s.1 t (btw (s.1 t + ch) 1 100))), s.2.2 + 1) else s) else s
def ftS (sv : (Nat → Int32) → Int32) : Nat → (Nat → Int32) × Int32 × Int32 → (Nat → Int32) × Int32 × Int32
  | 0, s => s
  | t + 1, s => ftT sv t (-10) (ftT sv t 10 (ftS sv t s))
def ftR (sv : (Nat → Int32) → Int32) (nt : Nat) : Nat → (Nat → Int32) × Int32 × Int32 → (Nat → Int32) × Int32 × Int32
  | 0, s => s
  | r + 1, s => ftS sv nt (ftR sv nt r s)
theorem up2_upr {r i : Nat} {x : Int32} {f : Nat → Int32} : up2 (upr h r f) r i x = upr h r (upd f i x) := by
  funext r' i'
  by_cases q : r' = r
  · subst q
    rw [up2_u, upr_s, upr_s]
  · rw [up2_r q, upr_n q, upr_n q]
theorem upr_same {r : Nat} : upr h r (h r) = h := by
  funext r'
  by_cases q : r' = r
  · rw [q, upr_s]
  · rw [upr_n q]
theorem upd_back {f : Nat → Int32} {t : Nat} {x : Int32} : upd (upd f t x) t (f t) = f := by
  funext j
  unfold upd
  by_cases q : j = t <;> simp [q]
theorem HF_upr (B : HF h wd ht nt nd n) {f : Nat → Int32} : HF (upr h 3 f) wd ht nt nd n := by
  obtain ⟨B0, B1, B3, B4, Bw, Bh, Bt, Bd, Bn, Bg⟩ := B
  unfold HF
  rw [upr_n (by decide), upr_n (by decide)]
  exact ⟨B0, B1, B3, B4, Bw, Bh, Bt, Bd, Bn, Bg⟩
theorem t_V_fit (A : GA G) (hfl : FL l) (R : RV z n h w wt ta π) (B : HF h wd ht nt nd n) (F : WF w wd ht nt nd tl) (hnw : w 0 1 = nI nw) (hnw2 : nw ≤ 400) {sv : (Nat → Int32) → Int32} (hsv : ∀ f wt, sqV (upr h 3 f) w wt ta wd ht nt nd tl nw = sv f) {x : Int32}
    (k : ∀ r, x = nI r → 1 ≤ r → r ≤ 3 → ∀ wt' π1, SV z n (upr h 3 (ftR sv nt r (h 3, sv (h 3), 0)).1) w wt' ta π π1 → K (.inl (some (.int (ftR sv nt r (h 3, sv (h 3), 0)).2.2))) π1) (kt : (¬ ∃ r, x = nI r ∧ 1 ≤ r ∧ r ≤ 3) → ∀ z', π.1 < z' → K (.inr IAE) (z', π.2)) :
    px_P l G y_V_fit b_V_fit 10 (some .int) (px_rt 6 138 1) true [.ref z, .int x] π K := by
  have hG := A.1
  have hZ := A.2.1
  refine px_P.intro (by decide) hZ (by simp [Value.category]) (Nat.le_of_ble_eq_true rfl) rfl ?_
  intro Γ hl hR X Y hnm hs hbel
  subst hl
  have Bt := B.2.2.2.2.2.2.1
  have bad : (¬ ∃ r, x = nI r ∧ 1 ≤ r ∧ r ≤ 3) → px_G Γ G (px_Q Γ G true K) false 0 0 10 [some (.ref z), some (.int x), none, none, none, none, none, none, none, none] [] π := by
    intro q
    exact pt_V X Y A hfl th_IAE d_V_fit_10 d_V_fit_13 d_V_fit_14 d_V_fit_16 d_V_fit_19 (lm_2 (List.mem_of_getElem? (i := 202) rfl)) (lm_2 (List.mem_of_getElem? (i := 203) rfl)) (lm_1 (List.mem_of_getElem? (i := 12) rfl)) (lm_3 (List.mem_of_getElem? (i := 133) rfl)) (by decide +kernel) (by rw [hR]; decide) (by rw [hR]; decide) (by rw [hR]; decide) (by rw [hR]; decide) hs hbel (kt q)
  refine pg_iload_n X d_V_fit_0 rfl ?_
  refine pg_iconst X (1) d_V_fit_1 (by decide) ?_
  refine pg_icmp_lt X d_V_fit_2 (fun c1 => ?_) (fun c1 => ?_)
  · refine bad (fun ⟨s, e, h1, h2⟩ => ?_)
    rw [e] at c1
    simp (disch := omega) only [Int32.lt_iff_toInt_lt, Int32.le_iff_toInt_le, nI_toInt, px_l0, px_l1, px_l2, px_l3, px_l4, px_l5, px_l6, px_l10, px_l11, px_l12, px_l16, px_l30, px_l100, px_l400] at c1
    omega
  refine pg_iload_n X d_V_fit_5 rfl ?_
  refine pg_iconst X (3) d_V_fit_6 (by decide) ?_
  refine pg_icmp_le X d_V_fit_7 (fun c2 => ?_) (fun c2 => bad (fun ⟨s, e, h1, h2⟩ => by
    rw [e] at c2
    simp (disch := omega) only [Int32.lt_iff_toInt_lt, Int32.le_iff_toInt_le, nI_toInt, px_l0, px_l1, px_l2, px_l3, px_l4, px_l5, px_l6, px_l10, px_l11, px_l12, px_l16, px_l30, px_l100, px_l400] at c2
    omega))
  obtain ⟨r, hr1, er⟩ := nI_of2 (x := x) (M := 3) (n := 3) rfl (fun q => c1 (Int32.lt_trans q (by decide))) c2
  subst er
  have hr0 : 1 ≤ r := by
    simp (disch := omega) only [Int32.lt_iff_toInt_lt, Int32.le_iff_toInt_le, nI_toInt, px_l0, px_l1, px_l2, px_l3, px_l4, px_l5, px_l6, px_l10, px_l11, px_l12, px_l16, px_l30, px_l100, px_l400] at c1
    omega
  have k := k r rfl hr0 hr1
  refine pg_w ?_
  have ho := R.1
  refine pg_aload_n X d_V_fit_20 rfl ?_
  refine pc_V (ci := 3) (As := []) X Y d_V_fit_21 (c_V_173 hG) (i_V_squaresAnew hG) (v_V_squaresAnew hG) (fun r h => by rw [hG.2] at h; cases h; rfl) rfl rfl (Nat.le_of_ble_eq_true rfl) (by rw [hR]; exact ⟨by decide, by decide⟩) (by decide) (by decide) (by rw [hR]; first | decide | (dsimp only [px_rm]; omega)) (by rw [hR]; first | decide | (dsimp only [px_rm]; omega)) (px_rd_of (by assumption)) (t_V_squaresAnew A R B F hnw hnw2 (fun wt1 π1 S => ?_))
  have e0 : sqV h w wt ta wd ht nt nd tl nw = sv (h 3) := by
    have := hsv (h 3) wt
    rw [upr_same] at this
    exact this
  rw [e0]
  have S0 : SV z n (upr h 3 (h 3)) w wt1 ta π π1 := by rw [upr_same]; exact S
  clear S
  -- one trial: change ch of thing t
  have one : ∀ (t : Nat), t < nt → ∀ (q : (Nat → Int32) × Int32 × Int32) (ch : Int32) (l4 : Nat) (x7 x8 x9 : Option Value) (wt1 : Nat → Nat → Int32) (π1 : px_H), ¬ ch < -10 → 0 < q.2.1 → SV z n (upr h 3 q.1) w wt1 ta π π1 →
      (∀ x7 x8 x9 wt2 π2, SV z n (upr h 3 (ftT sv t ch q).1) w wt2 ta π π2 → px_G Γ G (px_Q Γ G true K) true 0 0 147 [some (.ref z), some (.int (nI r)), some (.int (ftT sv t ch q).2.1), some (.int (ftT sv t ch q).2.2), some (.int (nI l4)), some (.int (nI t)), some (.int ch), x7, x8, x9] [] π2) →
      px_G Γ G (px_Q Γ G true K) true 0 0 55 [some (.ref z), some (.int (nI r)), some (.int q.2.1), some (.int q.2.2), some (.int (nI l4)), some (.int (nI t)), some (.int ch), x7, x8, x9] [] π1 := by
    intro t ht q ch l4 x7 x8 x9 wt1 π1 hch hpos S kk
    obtain ⟨f, le, kp⟩ := q
    dsimp only at hpos S kk ⊢
    unfold ftT at kk
    dsimp only at kk
    rw [if_pos hpos] at kk
    have ho := S.1.1
    have hho := S.1.2.1.o
    have hit := S.1.2.1.it
    rw [upr_s] at hit
    refine pg_iload X d_V_fit_55 rfl ?_
    refine pg_bipush X (-10) d_V_fit_57 (by decide) ?_
    refine pg_icmp_lt X d_V_fit_59 (fun c3 => ?_) (fun c3 => ?_)
    · exact absurd c3 hch
    refine pg_iload_n X d_V_fit_62 rfl ?_
    refine pg_if_le X d_V_fit_63 (fun c4 => ?_) (fun c4 => ?_)
    · exact absurd hpos (k2_nlt c4)
    refine pg_aload_n X d_V_fit_66 rfl ?_
    refine pg_getf X (f_V_19 hG) d_V_fit_67 (px_rd_of (by assumption)) rfl ?_
    refine pg_getf X (f_V_179 hG) d_V_fit_70 (px_rd_of (by assumption)) rfl ?_
    refine pg_iload X d_V_fit_73 rfl ?_
    refine pg_ialdN X d_V_fit_75 (px_rd_of (by assumption)) (by first | assumption | omega) (by first | assumption | omega) ?_
    refine pg_istore7 X d_V_fit_76 ?_
    refine pg_iload X d_V_fit_78 rfl ?_
    refine pg_iload X d_V_fit_80 rfl ?_
    refine pg_iadd X d_V_fit_82 ?_
    refine pg_iconst X (1) d_V_fit_83 (by decide) ?_
    refine pg_bipush X (100) d_V_fit_84 (by decide) ?_
    refine pc_S (As := [_, _, _]) X Y d_V_fit_86 (c_V_11 hG) (s_V_between hG) rfl rfl (Nat.le_of_ble_eq_true rfl) (by rw [hR]; exact ⟨by decide, by decide⟩) (by decide) (by decide) (by rw [hR]; first | decide | (dsimp only [px_rm]; omega)) (by rw [hR]; first | decide | (dsimp only [px_rm]; omega)) (t_V_between A ?_)
    have eb : (if 1 < (if f t + ch < 100 then f t + ch else 100) then (if f t + ch < 100 then f t + ch else 100) else 1) = btw (f t + ch) 1 100 := rfl
    rw [eb]
    generalize hbt : btw (f t + ch) 1 100 = bt at kk ⊢
    refine pg_istore8 X d_V_fit_89 ?_
    refine pg_aload_n X d_V_fit_91 rfl ?_
    refine pg_getf X (f_V_19 hG) d_V_fit_92 (px_rd_of (by assumption)) rfl ?_
    refine pg_getf X (f_V_179 hG) d_V_fit_95 (px_rd_of (by assumption)) rfl ?_
    refine pg_iload X d_V_fit_98 rfl ?_
    refine pg_iload X d_V_fit_100 rfl ?_
    refine pg_iastN X d_V_fit_102 (by assumption) (by first | assumption | omega) (by first | assumption | omega) ?_
    have H1 := S.1.2.1.wa (kk := 2) (r := 3) (m := 6) (Or.inr (Or.inl ⟨rfl, rfl, rfl, rfl⟩)) (c := t) (x := bt)
    rw [upr_s] at H1
    have S1 := S.house H1 (px_off.wr (by omega) (by omega))
    clear H1
    rw [up2_upr] at S1
    generalize px_wr π1 (z + 1 + 2) (.inl (.int, 6, .inl (upd f t bt))) = π2 at S1 ⊢
    -- what comes behind the sum
    have after : ∀ (wv : Int32) (wt2 : Nat → Nat → Int32) (π3 : px_H), wv = (if bt = f t then le else sv (upd f t bt)) → SV z n (upr h 3 (upd f t bt)) w wt2 ta π π3 → px_G Γ G (px_Q Γ G true K) true 0 0 118 [some (.ref z), some (.int (nI r)), some (.int le), some (.int kp), some (.int (nI l4)), some (.int (nI t)), some (.int ch), some (.int (f t)), some (.int bt), x9] [.int wv] π3 := by
      intro wv wt2 π3 ewv S3
      rw [← ewv] at kk
      have ho := S3.1.1
      have hho := S3.1.2.1.o
      have hit := S3.1.2.1.it
      rw [upr_s] at hit
      refine pg_istore9 X d_V_fit_118 ?_
      refine pg_iload X d_V_fit_120 rfl ?_
      refine pg_iload_n X d_V_fit_122 rfl ?_
      refine pg_icmp_ge X d_V_fit_123 (fun c5 => ?_) (fun c5 => ?_)
      · rw [if_neg (k2_nlt c5)] at kk
        refine pg_aload_n X d_V_fit_135 rfl ?_
        refine pg_getf X (f_V_19 hG) d_V_fit_136 (px_rd_of (by assumption)) rfl ?_
        refine pg_getf X (f_V_179 hG) d_V_fit_139 (px_rd_of (by assumption)) rfl ?_
        refine pg_iload X d_V_fit_142 rfl ?_
        refine pg_iload X d_V_fit_144 rfl ?_
        refine pg_iastN X d_V_fit_146 (by assumption) (by first | assumption | omega) (by first | assumption | omega) ?_
        have H1 := S3.1.2.1.wa (kk := 2) (r := 3) (m := 6) (Or.inr (Or.inl ⟨rfl, rfl, rfl, rfl⟩)) (c := t) (x := f t)
        rw [upr_s] at H1
        have S4 := S3.house H1 (px_off.wr (by omega) (by omega))
        rw [up2_upr, upd_back] at S4
        rw [upd_back]
        exact kk _ _ _ wt2 _ S4
      · rw [if_pos (k2_lt c5)] at kk
        refine pg_iload X d_V_fit_126 rfl ?_
        refine pg_istore2 X d_V_fit_128 ?_
        refine pg_iinc3 X d_V_fit_129 ?_
        refine pg_goto X d_V_fit_132 ?_
        exact kk _ _ _ wt2 _ S3
    refine pg_iload X d_V_fit_103 rfl ?_
    refine pg_iload X d_V_fit_105 rfl ?_
    refine pg_icmp_ne X d_V_fit_107 (fun c5 => ?_) (fun c5 => ?_)
    · have ho := S1.1.1
      refine pg_aload_n X d_V_fit_114 rfl ?_
      refine pc_V (ci := 3) (As := []) X Y d_V_fit_115 (c_V_173 hG) (i_V_squaresAnew hG) (v_V_squaresAnew hG) (fun r h => by rw [hG.2] at h; cases h; rfl) rfl rfl (Nat.le_of_ble_eq_true rfl) (by rw [hR]; exact ⟨by decide, by decide⟩) (by decide) (by decide) (by rw [hR]; first | decide | (dsimp only [px_rm]; omega)) (by rw [hR]; first | decide | (dsimp only [px_rm]; omega)) (px_rd_of (by assumption)) (t_V_squaresAnew A S1.1 (HF_upr B) F hnw hnw2 (fun wt2 π3 S3 => ?_))
      refine after _ wt2 π3 ?_ ⟨S3.1, S1.2.tr S3.2⟩
      rw [hsv, if_neg c5]
    · refine pg_iload_n X d_V_fit_110 rfl ?_
      refine pg_goto X d_V_fit_111 ?_
      refine after _ wt1 π2 ?_ S1
      rw [if_pos c5]
  -- both trials of thing t
  have both : ∀ (t : Nat), t < nt → ∀ (q : (Nat → Int32) × Int32 × Int32) (l4 : Nat) (x6 x7 x8 x9 : Option Value) (wt1 : Nat → Nat → Int32) (π1 : px_H), SV z n (upr h 3 q.1) w wt1 ta π π1 →
      (∀ x6 x7 x8 x9 wt2 π2, SV z n (upr h 3 (ftT sv t (-10) (ftT sv t 10 q)).1) w wt2 ta π π2 → px_G Γ G (px_Q Γ G true K) true 0 0 153 [some (.ref z), some (.int (nI r)), some (.int (ftT sv t (-10) (ftT sv t 10 q)).2.1), some (.int (ftT sv t (-10) (ftT sv t 10 q)).2.2), some (.int (nI l4)), some (.int (nI t)), x6, x7, x8, x9] [] π2) →
      px_G Γ G (px_Q Γ G true K) true 0 0 51 [some (.ref z), some (.int (nI r)), some (.int q.2.1), some (.int q.2.2), some (.int (nI l4)), some (.int (nI t)), x6, x7, x8, x9] [] π1 := by
    intro t ht q l4 x6 x7 x8 x9 wt1 π1 S kk
    have stop : ∀ (ch : Int32) (q2 : (Nat → Int32) × Int32 × Int32) x7 x8 x9 π2, ¬ ch < -10 → ¬ 0 < q2.2.1 → px_G Γ G (px_Q Γ G true K) true 0 0 153 [some (.ref z), some (.int (nI r)), some (.int q2.2.1), some (.int q2.2.2), some (.int (nI l4)), some (.int (nI t)), some (.int ch), x7, x8, x9] [] π2 → px_G Γ G (px_Q Γ G true K) true 0 0 55 [some (.ref z), some (.int (nI r)), some (.int q2.2.1), some (.int q2.2.2), some (.int (nI l4)), some (.int (nI t)), some (.int ch), x7, x8, x9] [] π2 := by
      intro ch q2 x7 x8 x9 π2 h1 h2 k3
      refine pg_iload X d_V_fit_55 rfl ?_
      refine pg_bipush X (-10) d_V_fit_57 (by decide) ?_
      refine pg_icmp_lt X d_V_fit_59 (fun c3 => ?_) (fun c3 => ?_)
      · exact absurd c3 h1
      refine pg_iload_n X d_V_fit_62 rfl ?_
      refine pg_if_le X d_V_fit_63 (fun c4 => ?_) (fun c4 => ?_)
      · exact k3
      · exact absurd (k2_lt c4) h2
    refine pg_bipush X (10) d_V_fit_51 (by decide) ?_
    refine pg_istore6 X d_V_fit_53 ?_
    by_cases hp : 0 < q.2.1
    · refine one t ht q 10 l4 x7 x8 x9 wt1 π1 (by decide) hp S ?_
      intro x7 x8 x9 wt2 π2 S2
      generalize ftT sv t 10 q = q2 at S2 kk ⊢
      refine pg_iinc6 X d_V_fit_147 ?_
      refine pg_goto X d_V_fit_150 ?_
      have e10 : (10 : Int32) + Int32.ofInt (-20) = -10 := by decide
      rw [e10]
      by_cases hp2 : 0 < q2.2.1
      · refine one t ht q2 (-10) l4 x7 x8 x9 wt2 π2 (by decide) hp2 S2 ?_
        intro x7 x8 x9 wt3 π3 S3
        refine pg_iinc6 X d_V_fit_147 ?_
        refine pg_goto X d_V_fit_150 ?_
        have e30 : (-10 : Int32) + Int32.ofInt (-20) = -30 := by decide
        rw [e30]
        refine pg_iload X d_V_fit_55 rfl ?_
        refine pg_bipush X (-10) d_V_fit_57 (by decide) ?_
        refine pg_icmp_lt X d_V_fit_59 (fun c3 => ?_) (fun c3 => ?_)
        · exact kk _ _ _ _ wt3 π3 S3
        · exact absurd (by decide) c3
      · have e1 : ftT sv t (-10) q2 = q2 := by unfold ftT; rw [if_neg hp2]
        rw [e1] at kk
        exact stop (-10) q2 x7 x8 x9 π2 (by decide) hp2 (kk _ _ _ _ wt2 π2 S2)
    · have e0 : ftT sv t 10 q = q := by unfold ftT; rw [if_neg hp]
      have e1 : ftT sv t (-10) q = q := by unfold ftT; rw [if_neg hp]
      rw [e0, e1] at kk
      exact stop 10 q x7 x8 x9 π1 (by decide) hp (kk _ _ _ _ wt1 π1 S)
  -- all things, in one round
  have things : ∀ (f t : Nat), t + f = nt → ∀ (q0 : (Nat → Int32) × Int32 × Int32) (l4 : Nat) (x6 x7 x8 x9 : Option Value) (wt1 : Nat → Nat → Int32) (π1 : px_H), SV z n (upr h 3 (ftS sv t q0).1) w wt1 ta π π1 →
      (∀ x5 x6 x7 x8 x9 wt2 π2, SV z n (upr h 3 (ftS sv nt q0).1) w wt2 ta π π2 → px_G Γ G (px_Q Γ G true K) true 0 0 159 [some (.ref z), some (.int (nI r)), some (.int (ftS sv nt q0).2.1), some (.int (ftS sv nt q0).2.2), some (.int (nI l4)), x5, x6, x7, x8, x9] [] π2) →
      px_G Γ G (px_Q Γ G true K) true 0 0 39 [some (.ref z), some (.int (nI r)), some (.int (ftS sv t q0).2.1), some (.int (ftS sv t q0).2.2), some (.int (nI l4)), some (.int (nI t)), x6, x7, x8, x9] [] π1 := by
    intro f
    induction f with
    | zero =>
      intro t ht q0 l4 x6 x7 x8 x9 wt1 π1 S kk
      have et : t = nt := by omega
      subst et
      have ho := S.1.1
      have hho := S.1.2.1.o
      rw [upr_n (by decide), B.2.2.1] at hho
      refine pg_iload X d_V_fit_39 rfl ?_
      refine pg_aload_n X d_V_fit_41 rfl ?_
      refine pg_getf X (f_V_19 hG) d_V_fit_42 (px_rd_of (by assumption)) rfl ?_
      refine pg_getf X (f_V_71 hG) d_V_fit_45 (px_rd_of (by assumption)) rfl ?_
      refine pg_icmp_ge X d_V_fit_48 (fun c3 => ?_) (fun c3 => ?_)
      · exact kk _ _ _ _ _ wt1 π1 S
      · simp (disch := omega) only [Int32.lt_iff_toInt_lt, Int32.le_iff_toInt_le, nI_toInt, px_l0, px_l1, px_l2, px_l3, px_l4, px_l5, px_l6, px_l10, px_l11, px_l12, px_l16, px_l30, px_l100, px_l400] at c3
        omega
    | succ f ih =>
      intro t ht q0 l4 x6 x7 x8 x9 wt1 π1 S kk
      have ho := S.1.1
      have hho := S.1.2.1.o
      rw [upr_n (by decide), B.2.2.1] at hho
      refine pg_iload X d_V_fit_39 rfl ?_
      refine pg_aload_n X d_V_fit_41 rfl ?_
      refine pg_getf X (f_V_19 hG) d_V_fit_42 (px_rd_of (by assumption)) rfl ?_
      refine pg_getf X (f_V_71 hG) d_V_fit_45 (px_rd_of (by assumption)) rfl ?_
      refine pg_icmp_ge X d_V_fit_48 (fun c3 => ?_) (fun c3 => ?_)
      · simp (disch := omega) only [Int32.lt_iff_toInt_lt, Int32.le_iff_toInt_le, nI_toInt, px_l0, px_l1, px_l2, px_l3, px_l4, px_l5, px_l6, px_l10, px_l11, px_l12, px_l16, px_l30, px_l100, px_l400] at c3
        omega
      refine both t (by omega) (ftS sv t q0) l4 x6 x7 x8 x9 wt1 π1 S ?_
      intro x6 x7 x8 x9 wt2 π2 S2
      refine pg_iinc5 X d_V_fit_153 ?_
      refine pg_goto X d_V_fit_156 ?_
      rw [nI_i1]
      exact ih (t + 1) (by omega) q0 l4 x6 x7 x8 x9 wt2 π2 S2 kk
  -- all rounds
  have rounds : ∀ (f i : Nat), i + f = r → ∀ (x5 x6 x7 x8 x9 : Option Value) (wt1 : Nat → Nat → Int32) (π1 : px_H), SV z n (upr h 3 (ftR sv nt i (h 3, sv (h 3), 0)).1) w wt1 ta π π1 →
      px_G Γ G (px_Q Γ G true K) true 0 0 30 [some (.ref z), some (.int (nI r)), some (.int (ftR sv nt i (h 3, sv (h 3), 0)).2.1), some (.int (ftR sv nt i (h 3, sv (h 3), 0)).2.2), some (.int (nI i)), x5, x6, x7, x8, x9] [] π1 := by
    intro f
    induction f with
    | zero =>
      intro i hi x5 x6 x7 x8 x9 wt1 π1 S
      have ei : i = r := by omega
      subst ei
      refine pg_iload X d_V_fit_30 rfl ?_
      refine pg_iload_n X d_V_fit_32 rfl ?_
      refine pg_icmp_ge X d_V_fit_33 (fun c3 => ?_) (fun c3 => ?_)
      · refine pg_iload_n X d_V_fit_165 rfl ?_
        exact pg_iret X Y d_V_fit_166 rfl (by decide) (by rw [hR]; decide) (by rw [hR]; decide) (k wt1 π1 S)
      · simp (disch := omega) only [Int32.lt_iff_toInt_lt, Int32.le_iff_toInt_le, nI_toInt, px_l0, px_l1, px_l2, px_l3, px_l4, px_l5, px_l6, px_l10, px_l11, px_l12, px_l16, px_l30, px_l100, px_l400] at c3
        omega
    | succ f ih =>
      intro i hi x5 x6 x7 x8 x9 wt1 π1 S
      refine pg_iload X d_V_fit_30 rfl ?_
      refine pg_iload_n X d_V_fit_32 rfl ?_
      refine pg_icmp_ge X d_V_fit_33 (fun c3 => ?_) (fun c3 => ?_)
      · simp (disch := omega) only [Int32.lt_iff_toInt_lt, Int32.le_iff_toInt_le, nI_toInt, px_l0, px_l1, px_l2, px_l3, px_l4, px_l5, px_l6, px_l10, px_l11, px_l12, px_l16, px_l30, px_l100, px_l400] at c3
        omega
      refine pg_iconst X (0) d_V_fit_36 (by decide) ?_
      refine pg_istore5 X d_V_fit_37 ?_
      refine things nt 0 (by omega) (ftR sv nt i (h 3, sv (h 3), 0)) i x6 x7 x8 x9 wt1 π1 S ?_
      intro x5 x6 x7 x8 x9 wt2 π2 S2
      refine pg_iinc4 X d_V_fit_159 ?_
      refine pg_goto X d_V_fit_162 ?_
      rw [nI_i1]
      exact ih (i + 1) (by omega) x5 x6 x7 x8 x9 wt2 π2 S2
  refine pg_istore2 X d_V_fit_24 ?_
  refine pg_iconst X (0) d_V_fit_25 (by decide) ?_
  refine pg_istore3 X d_V_fit_26 ?_
  refine pg_iconst X (0) d_V_fit_27 (by decide) ?_
  refine pg_istore4 X d_V_fit_28 ?_
  exact rounds r 0 (by omega) _ _ _ _ _ wt1 π1 S0
end FIT
