/-! THE MODEL: act -/
section ACT
variable {l : Launch} {G : px_Cg} {π π0 : px_H} {K : Option Value ⊕ String → px_H → Prop} {zm n nt nd wd ht c v tl g : Nat} {μ μ' h w w' : Nat → Nat → Int32} {b : Bool}
def VI (w : Nat → Nat → Int32) (v : Nat) : Prop := (∃ gr, gr < 4 ∧ w (6 + v) 2 = nI gr) ∧ KS w v ∧ (w (6 + v) 4 = 0 ∨ w (6 + v) 4 = 1 ∨ w (6 + v) 4 = 2) ∧ (∃ b, b < 64 ∧ w (6 + v) 8 = nI b) ∧ w (6 + v) 9 = mny (w (6 + v) 8) 6 ∧ (∀ t, t < 6 → w (6 + v) 6 = nI t → px_sb (w (6 + v) 8) (nI t) = 0) ∧ (¬ w (6 + v) 4 = 1 → w (6 + v) 6 = -1)
def CRw (w : Nat → Nat → Int32) (ht tl : Nat) : Prop := ∀ c, c < 12 * ht → w 1 c = nI (cn (fun u => w (6 + u) 4 = 1 ∧ w (6 + u) 5 = nI c) tl)
/-- seed and interests -/
def HS (h : Nat → Nat → Int32) (nt : Nat) : Prop := hIN h nt ∧ ∃ sd, sd ≤ 65536 ∧ h 0 2 = nI sd
theorem cn_cong {p q : Nat → Prop} : ∀ n, (∀ u, u < n → (p u ↔ q u)) → cn p n = cn q n
  | 0, _ => rfl
  | n + 1, H => by
    have e : p n = q n := propext (H n (by omega))
    show cn p n + px_if (p n) 1 0 = cn q n + px_if (q n) 1 0
    rw [cn_cong n (fun u hu => H u (by omega)), e]
theorem FM.fr (F : FM h ht nt nd (μ 21)) (R : FrM μ μ' tl) : FM h ht nt nd (μ' 21) := by rw [R.1 21 (by decide)]; exact F
theorem CH.fr (C : CH h μ wd ht nt nd) (R : FrM μ μ' tl) : CH h μ' wd ht nt nd := by
  unfold CH
  rw [R.1 0 (by decide), R.1 1 (by decide), R.1 2 (by decide), R.1 3 (by decide), R.1 4 (by decide), R.1 6 (by decide)]
  exact C
theorem CW.cr (W : CW h w μ nd tl) (Q : CRw w ht tl) {o : Nat} (ho : o < 12 * ht) : nI (cn (fun z => μ 10 z = 1 ∧ μ 11 z = nI o) tl) = w 1 o := by
  rw [Q o ho]
  congr 1
  refine cn_cong tl (fun u hu => ?_)
  obtain ⟨-, -, -, v3, v4, -⟩ := W.2 u hu
  rw [v3]
  refine and_congr_right (fun q => ?_)
  rw [v4 q]
/-- what is chosen can be reached -/
theorem chT_ok (HI : hIN h nt) (hnt : nt ≤ 6) : chT h w v c nt = -1 ∨ ∃ t, t < nt ∧ chT h w v c nt = nI t ∧ opn h w v c t := by
  unfold chT
  split
  · obtain ⟨-, ob, ob1, ob2, ob3⟩ := ct_1 (w := w) (v := v) (c := c) HI hnt nt (Nat.le_refl nt)
    have main : ∀ r t z, t + r = nt → ctR h (ctS h w v c nt).1 r t z = -1 ∨ ∃ t', t' < nt ∧ ctR h (ctS h w v c nt).1 r t z = nI t' ∧ opn h w v c t' := by
      intro r
      induction r with
      | zero => intro t z _; exact Or.inl rfl
      | succ r ih =>
        intro t z ht2
        have e : ctR h (ctS h w v c nt).1 (r + 1) t z = if px_sb (ctS h w v c nt).1 (nI t) = 0 then ctR h (ctS h w v c nt).1 r (t + 1) z else if z - h 3 t < 0 then nI t else ctR h (ctS h w v c nt).1 r (t + 1) (z - h 3 t) := rfl
        rw [e]
        split
        · exact ih (t + 1) z (by omega)
        · rename_i q
          split
          · refine Or.inr ⟨t, by omega, rfl, Classical.byContradiction fun q2 => q ?_⟩
            rw [ob2, ob3 t (by omega), px_if_f (fun q3 => q2 q3.2)]
          · exact ih (t + 1) _ (by omega)
    exact main nt 0 _ (by omega)
  · exact Or.inl rfl
theorem outW_4g : outW w v c g 4 g = w 4 g + 1 := by
  simp only [outW]
  rw [trn_r (by omega), up2_r (by omega), up2_r (by decide), up2_r (by decide), up2_r (by decide), up2_s]
theorem outW_4n {j : Nat} (hj : j ≠ g) : outW w v c g 4 j = w 4 j := by
  simp only [outW]
  rw [trn_r (by omega), up2_r (by omega), up2_r (by decide), up2_r (by decide), up2_r (by decide), up2_n (Or.inr hj)]
theorem CC.out (Q : CC b w μ ht) {d : Nat} (hd : d < 4) : CC b (outW w v c (6 + d)) (up2 (up2 (up2 μ 10 v 2) 19 d (μ 19 d + 1)) 12 v (-1)) ht := by
  intro hb
  obtain ⟨q1, q2⟩ := Q hb
  refine ⟨fun x hx => ?_, fun e he => ?_⟩
  · rw [up2_r (by decide), up2_r (by decide), up2_r (by decide), outW_r (by decide) (by decide) (by decide) (by omega)]
    exact q1 x hx
  · rw [up2_r (r' := 18) (by decide), up2_r (r' := 18) (by decide), up2_r (r' := 18) (by decide), up2_r (r := 12) (r' := 19) (by decide), outW_r (r := 3) (by decide) (by decide) (by decide) (by omega)]
    refine ⟨(q2 e he).1, ?_⟩
    by_cases q : e = d
    · rw [q, up2_s, outW_4g, (q2 d hd).2]
    · rw [up2_n (Or.inr q), up2_r (by decide), outW_4n (by omega)]
      exact (q2 e he).2
theorem CC.step {o : Nat} {y : Int32} (Q : CC b w μ ht) : CC b (stW w v c o) (up2 μ 11 v y) ht := by
  intro hb
  obtain ⟨q1, q2⟩ := Q hb
  refine ⟨fun x hx => ?_, fun e he => ?_⟩
  · rw [up2_r (by decide), stW_v (by decide) (by omega)]
    exact q1 x hx
  · rw [up2_r (r' := 18) (by decide), up2_r (r' := 19) (by decide), stW_v (r := 3) (by decide) (by omega), stW_v (r := 4) (by decide) (by omega)]
    exact q2 e he
theorem CC.mu {r j : Nat} {y : Int32} (Q : CC b w μ ht) (h1 : r ≠ 16) (h2 : r ≠ 18) (h3 : r ≠ 19) : CC b w (up2 μ r j y) ht := by
  intro hb
  rw [up2_r (Ne.symm h1), up2_r (Ne.symm h2), up2_r (Ne.symm h3)]
  exact Q hb
theorem CC.wr (Q : CC b w μ ht) (h2 : w' 2 = w 2) (h3 : w' 3 = w 3) (h4 : ∀ d, d < 4 → w' 4 (6 + d) = w 4 (6 + d)) : CC b w' μ ht := by
  intro hb
  rw [h2, h3]
  exact ⟨(Q hb).1, fun d hd => by rw [h4 d hd]; exact (Q hb).2 d hd⟩
theorem CC.look {t : Nat} (Q : CC b w μ ht) (ht6 : t < 6) : CC b (lkW h w v t tl) (lkM μ v t tl) ht := by
  have Q1 : CC b (lk1 w v) (lm1 μ v) ht := (Q.mu (r := 13) (by decide) (by decide) (by decide)).wr (lk1_o (by omega)) (lk1_o (by omega)) (fun d hd => by rw [lk1_o (by omega)])
  have Q2 : CC b (lkD (lk1 w v) v t) (lmD (lm1 μ v) v t) ht := by
    refine ((Q1.mu (r := 14) (by decide) (by decide) (by decide)).mu (r := 12) (by decide) (by decide) (by decide)).wr (lkD_r (by decide) (by omega)) (lkD_r (by decide) (by omega)) (fun d hd => ?_)
    simp only [lkD]
    rw [trn_r (by omega), up2_r (by omega), up2_r (by omega), up2_n (Or.inr (by omega))]
  intro hb
  have q1 := Q1 hb
  have q2 := Q2 hb
  -- the model's and the class's condition need not be the same here: the counters are the same in both
  have eW : lkW h w v t tl 2 = w 2 ∧ lkW h w v t tl 3 = w 3 ∧ ∀ d, d < 4 → lkW h w v t tl 4 (6 + d) = w 4 (6 + d) := by
    unfold lkW
    by_cases q : h 4 t ≤ lk1 w v (6 + v) 7 ∧ doneG h (lk1 w v) v t tl
    · rw [px_if_t q, lkD_r (by decide) (by omega), lkD_r (r := 3) (by decide) (by omega), lk1_o (r := 2) (by omega), lk1_o (r := 3) (by omega)]
      refine ⟨rfl, rfl, fun d hd => ?_⟩
      simp only [lkD]
      rw [trn_r (by omega), up2_r (by omega), up2_r (by omega), up2_n (Or.inr (by omega)), lk1_o (by omega)]
    · rw [px_if_f q, lk1_o (r := 2) (by omega), lk1_o (r := 3) (by omega), lk1_o (r := 4) (by omega)]
      exact ⟨rfl, rfl, fun _ _ => rfl⟩
  have eM : lkM μ v t tl 16 = μ 16 ∧ lkM μ v t tl 18 = μ 18 ∧ lkM μ v t tl 19 = μ 19 := by
    unfold lkM lmD lm1
    unfold px_if
    split
    · exact ⟨by rw [up2_r (by decide), up2_r (by decide), up2_r (by decide)], by rw [up2_r (by decide), up2_r (by decide), up2_r (by decide)], by rw [up2_r (by decide), up2_r (by decide), up2_r (by decide)]⟩
    · exact ⟨up2_r (by decide), up2_r (by decide), up2_r (by decide)⟩
  rw [eM.1, eM.2.1, eM.2.2, eW.1, eW.2.1]
  exact ⟨(Q hb).1, fun d hd => by rw [eW.2.2 d hd]; exact (Q hb).2 d hd⟩
theorem FrM.look {t : Nat} (hv : v < tl) : FrM μ (lkM μ v t tl) tl := by
  unfold lkM px_if
  split
  · exact ((FrM.up (by omega)).tr (FrM.up (by omega))).tr (FrM.up (by omega))
  · exact FrM.up (by omega)
theorem t_M_act (A : GA G) (S : SM zm μ π0 π) (FF : FM h ht nt nd (μ 21)) (C : CH h μ wd ht nt nd) (B : HG h wd ht nt nd n) (HH : HS h nt) (F : WF w wd ht nt nd tl) (I : ∀ z, z < tl → VI w z) (Q : CRw w ht tl) (W : CW h w μ nd tl) (Qc : CC b w μ ht) (hv : v < tl) (h1 : w (6 + v) 4 = 1) {fl : Int32} (hfl : fl = 0 ↔ w 0 4 = 0)
    (k : ∀ μ' π1, CW h (goW h w v wd ht nt nd tl) μ' nd tl → CC b (goW h w v wd ht nt nd tl) μ' ht → FrM μ μ' tl → SM zm μ' π0 π1 → K (.inl none) π1) :
    px_P l G y_M_act b_M_act 5 none (px_rm 4 100) true [.ref zm, .int (nI v), .int fl] π K := by
  have hG := A.1
  have hZ := A.2.1
  refine px_P.intro (by decide) hZ (by simp [Value.category]) (Nat.le_of_ble_eq_true rfl) rfl ?_
  intro Γ hl hR X Y hnm hs hbel
  subst hl
  refine pg_w ?_
  have R := S.1
  obtain ⟨⟨b0, b1, b2, b3, b4, b5, b6, b7, b8, b9⟩, BD⟩ := id B
  have htl := F.2.1
  have hv16 : v < 16 := by omega
  obtain ⟨⟨c, hc1, hc2⟩, ⟨o, ho1, ho2⟩, -⟩ := F.2.2 v hv
  have hcl := inC_lt hc2
  have hcl2 := inC_144 b4.2 b5.2 hc2
  have eF : (10000 : Int32) = nI 10000 := rfl
  have gxs : ∀ z, z < tl → gx (w (6 + z) 6) := fun z hz => vok.gxx (F.2.2 z hz) b6 b7
  -- the second half
  have part2 : ∀ w1 μ1 π1 o1 x4, (∀ z, z < tl → gx (w1 (6 + z) 6)) → (∀ z, z < tl → ∃ b, b < 64 ∧ w1 (6 + z) 8 = nI b) → 0 ≤ w1 (6 + v) 2 → w1 (6 + v) 4 = 1 → w1 (6 + v) 5 = nI c → w1 (6 + v) 6 = px_ov o1 → (∀ g, o1 = some g → isG nt nd g ∧ ¬ h (6 + g) c = -1) → CRw w1 ht tl → CW h w1 μ1 nd tl → μ1 12 v = mgI (w1 (6 + v) 6) → CC b w1 μ1 ht → FrM μ μ1 tl → SM zm μ1 π0 π1 → goW h w v wd ht nt nd tl = goB h w1 v wd ht tl → px_G Γ G (px_Q Γ G true K) true 0 0 57 [some (.ref zm), some (.int (nI v)), some (.int fl), none, x4] [] π1 := by
    intro w1 μ1 π1 o1 x4 g1 g2 g3 g4 g5 g6 g7 g8 W1 g9 Q1 R1 S e
    have R := S.1
    have FF := FF.fr R1
    have C := C.fr R1
    rw [e] at k
    have e11 : μ1 11 v = nI c := by rw [(W1.2 v hv).2.2.2.2.1 g4, g5]
    refine pg_aload_n X d_M_act_57 rfl ?_
    refine pg_getf X (f_M_51 hG) d_M_act_58 (px_rd_of (by first | exact R.o | exact R _ (by decide) | assumption)) rfl ?_
    refine pg_iload_n X d_M_act_61 rfl ?_
    refine pg_ialdN X d_M_act_62 (px_rd_of (by first | exact R.o | exact R _ (by decide) | assumption)) (by first | assumption | omega) (by first | assumption | omega) ?_
    rw [g9]
    cases o1 with
    | none =>
      rw [g6]
      have eb : goB h w1 v wd ht tl = w1 := by unfold goB; rw [if_pos (show w1 (6 + v) 6 = -1 from g6)]
      rw [eb] at k
      have en : mgI (px_ov none) = -1 := mgI_n
      rw [en]
      refine pg_istore3 X d_M_act_63 ?_
      refine pg_iload_n X d_M_act_64 rfl ?_
      refine pg_iconst X (-1) d_M_act_65 (by decide) ?_
      refine pg_icmp_ne X d_M_act_66 (fun c1 => ?_) (fun c1 => ?_)
      · exact absurd rfl c1
      · exact pg_vret X Y d_M_act_69 (by decide) (Nat.zero_le _) (Nat.zero_le _) (k μ1 _ W1 Q1 R1 S)
    | some g =>
      obtain ⟨hg, hr⟩ := g7 g rfl
      have hg10 := isG_10 b6 b7 hg
      have hmg : mg g < 14 := by unfold mg; split <;> omega
      have g6' : w1 (6 + v) 6 = nI g := g6
      rw [g6', mgI_g hg10]
      rw [g6', mgI_g hg10] at g9
      obtain ⟨c0, d1, d2, d3⟩ := BD g hg
      have d4 := inC_144 b4.2 b5.2 d2
      have eg : (w1 (6 + v) 6).toNatClampNeg = g := by rw [g6', nI_clamp (by omega)]
      have ec : (w1 (6 + v) 5).toNatClampNeg = c := by rw [g5, nI_clamp (by omega)]
      have eb : goB h w1 v wd ht tl = if nI c0 = nI c then (if 6 ≤ g then outW w1 v c g else lkW h w1 v g tl) else stI h w1 v c g wd ht := by
        unfold goB
        rw [eg, ec, g5, d1, if_neg (by rw [g6']; exact nI_nm1 (by omega))]
      rw [eb] at k
      obtain ⟨j, j1, j2, j3, -⟩ | ⟨j1, j2⟩ := fdv_c hcl (FF g hg c hcl2)
      · have hj := d3.2.1 c hcl hr
        obtain ⟨j', j4, j5, -, -⟩ := hj
        have ej : j = j' := (nI_eq (by omega) (by omega)).mp (j3.symm.trans j5)
        refine pg_istore3 X d_M_act_63 ?_
        refine pg_iload_n X d_M_act_64 rfl ?_
        refine pg_iconst X (-1) d_M_act_65 (by decide) ?_
        refine pg_icmp_ne X d_M_act_66 (fun c1 => ?_) (fun c1 => ?_)
        · refine pg_aload_n X d_M_act_70 rfl ?_
          refine pg_iload_n X d_M_act_71 rfl ?_
          refine pg_iload_n X d_M_act_72 rfl ?_
          refine pc_V (ci := 4) (As := [_, _]) X Y d_M_act_73 (c_M_133 hG) (i_M_distance hG) (v_M_distance hG) (fun r h => by rw [hG.2] at h; cases h; rfl) rfl rfl (Nat.le_of_ble_eq_true rfl) (by rw [hR]; exact ⟨by decide, by decide⟩) (by decide) (by decide) (by rw [hR]; first | decide | (dsimp only [px_rm]; omega)) (by rw [hR]; first | decide | (dsimp only [px_rm]; omega)) (px_rd_of (by first | exact R.o | assumption)) (t_M_distance A R hv16 hg10 hcl2 e11 ?_)
          rw [j2]
          refine pg_if_le X d_M_act_76 (fun c2 => ?_) (fun c2 => ?_)
          · simp (disch := omega) only [Int32.lt_iff_toInt_lt, Int32.le_iff_toInt_le, nI_toInt, px_l0, px_l1, px_l2, px_l3, px_l4, px_l5, px_l6, px_l10, px_l11, px_l12, px_l16, px_l30, px_l100, px_l400] at c2
            have j0 : j = 0 := by omega
            subst j0
            have ecc : c = c0 := d3.2.2.2.1 c hcl j3
            rw [if_pos (by rw [ecc])] at k
            have e9 : (9 : Int32) = nI 9 := rfl
            refine pg_iload_n X d_M_act_120 rfl ?_
            refine pg_bipush X (9) d_M_act_121 (by decide) ?_
            rw [e9]
            refine pg_icmp_le X d_M_act_123 (fun c3 => ?_) (fun c3 => ?_)
            · simp (disch := omega) only [Int32.lt_iff_toInt_lt, Int32.le_iff_toInt_le, nI_toInt, px_l0, px_l1, px_l2, px_l3, px_l4, px_l5, px_l6, px_l10, px_l11, px_l12, px_l16, px_l30, px_l100, px_l400] at c3
              have h6 : g < 6 := by
                unfold mg at c3
                split at c3 <;> omega
              rw [if_neg (by omega)] at k
              have eg : mg g = g := if_pos h6
              rw [eg] at g9
              have hnt : g < nt := by unfold isG at hg; omega
              refine pg_aload_n X d_M_act_156 rfl ?_
              refine pg_iload_n X d_M_act_157 rfl ?_
              refine pc_V (ci := 4) (As := [_]) X Y d_M_act_158 (c_M_155 hG) (i_M_look hG) (v_M_look hG) (fun r h => by rw [hG.2] at h; cases h; rfl) rfl rfl (Nat.le_of_ble_eq_true rfl) (by rw [hR]; exact ⟨by decide, by decide⟩) (by decide) (by decide) (by rw [hR]; first | decide | (dsimp only [px_rm]; omega)) (by rw [hR]; first | decide | (dsimp only [px_rm]; omega)) (px_rd_of (by first | exact R.o | assumption)) (t_M_look A S W1.1 htl hv h6 g9 (fun π2 S2 => ?_))
              have cs := C.2.2.2.2.2.2.2.2.1 g hnt
              exact pg_vret X Y d_M_act_161 (by decide) (Nat.zero_le _) (Nat.zero_le _) (k _ _ (W1.look cs.2.2 cs.1 h6 b7 hv g1 g2 g6' (by rw [g5, d1, ecc]) g3) (Q1.look h6) (R1.tr (FrM.look hv)) S2)
            · simp (disch := omega) only [Int32.lt_iff_toInt_lt, Int32.le_iff_toInt_le, nI_toInt, px_l0, px_l1, px_l2, px_l3, px_l4, px_l5, px_l6, px_l10, px_l11, px_l12, px_l16, px_l30, px_l100, px_l400] at c3
              have h6 : 6 ≤ g := by
                unfold mg at c3
                split at c3 <;> omega
              rw [if_pos h6] at k
              have eg : mg g = g + 4 := if_neg (by omega)
              have e10 : nI (mg g) - 10 = nI (g - 6) := by
                rw [eg, show (10 : Int32) = nI 10 from rfl, pk_sub (by omega)]
                congr 1
              refine pg_aload_n X d_M_act_126 rfl ?_
              refine pg_getf X (f_M_45 hG) d_M_act_127 (px_rd_of (by first | exact R.o | exact R _ (by decide) | assumption)) rfl ?_
              refine pg_iload_n X d_M_act_130 rfl ?_
              refine pg_iconst X (2) d_M_act_131 (by decide) ?_
              refine pm_ist X S (fun _ => rfl) (by decide) d_M_act_132 (by first | assumption | omega) (by first | assumption | omega) (fun π1 S => ?_)
              have R := S.1
              refine pg_aload_n X d_M_act_133 rfl ?_
              refine pg_getf X (f_M_72 hG) d_M_act_134 (px_rd_of (by first | exact R.o | exact R _ (by decide) | assumption)) rfl ?_
              refine pg_iload_n X d_M_act_137 rfl ?_
              refine pg_bipush X (10) d_M_act_138 (by decide) ?_
              refine pg_isub X d_M_act_140 ?_
              rw [e10]
              refine pg_dup2 X d_M_act_141 rfl rfl ?_
              refine pg_ialdN X d_M_act_142 (px_rd_of (by first | exact R.o | exact R _ (by decide) | assumption)) (by first | assumption | omega) (by first | assumption | omega) ?_
              refine pg_iconst X (1) d_M_act_143 (by decide) ?_
              refine pg_iadd X d_M_act_144 ?_
              refine pm_ist X S (fun _ => rfl) (by decide) d_M_act_145 (by first | assumption | omega) (by first | assumption | omega) (fun π1 S => ?_)
              have R := S.1
              refine pg_aload_n X d_M_act_146 rfl ?_
              refine pg_getf X (f_M_51 hG) d_M_act_147 (px_rd_of (by first | exact R.o | exact R _ (by decide) | assumption)) rfl ?_
              refine pg_iload_n X d_M_act_150 rfl ?_
              refine pg_iconst X (-1) d_M_act_151 (by decide) ?_
              refine pm_ist X S (fun _ => rfl) (by decide) d_M_act_152 (by first | assumption | omega) (by first | assumption | omega) (fun π1 S => ?_)
              have R := S.1
              refine pg_goto X d_M_act_153 ?_
              obtain ⟨d, rfl⟩ : ∃ d, g = 6 + d := ⟨g - 6, by omega⟩
              rw [show 6 + d - 6 = d by omega] at S
              rw [up2_r (r' := 19) (by decide)] at S
              exact pg_vret X Y d_M_act_161 (by decide) (Nat.zero_le _) (Nat.zero_le _) (k _ _ (W1.out hv) (Q1.out (by omega)) (R1.tr (((FrM.up (by omega)).tr (FrM.uk (by omega))).tr (FrM.up (by omega)))) S)
          · simp (disch := omega) only [Int32.lt_iff_toInt_lt, Int32.le_iff_toInt_le, nI_toInt, px_l0, px_l1, px_l2, px_l3, px_l4, px_l5, px_l6, px_l10, px_l11, px_l12, px_l16, px_l30, px_l100, px_l400] at c2
            obtain ⟨i, rfl⟩ : ∃ i, j = i + 1 := ⟨j - 1, by omega⟩
            have hne : ¬ nI c0 = nI c := fun q => by
              have := (nI_eq (by omega) (by omega)).mp q
              rw [← this, d3.1] at j3
              have := (nI_eq (by omega) (by omega)).mp j3
              omega
            rw [if_neg hne] at k
            have nr := near_1 b4.2 b5.2 d3 hc2 (by omega) j3
            have on1 := inC_lt nr.2.1
            have on2 := inC_144 b4.2 b5.2 nr.2.1
            refine pg_aload_n X d_M_act_79 rfl ?_
            refine pg_iload_n X d_M_act_80 rfl ?_
            refine pg_iload_n X d_M_act_81 rfl ?_
            refine pc_V (ci := 4) (As := [_, _]) X Y d_M_act_82 (c_M_152 hG) (i_M_next hG) (v_M_next hG) (fun r h => by rw [hG.2] at h; cases h; rfl) rfl rfl (Nat.le_of_ble_eq_true rfl) (by rw [hR]; exact ⟨by decide, by decide⟩) (by decide) (by decide) (by rw [hR]; first | decide | (dsimp only [px_rm]; omega)) (by rw [hR]; first | decide | (dsimp only [px_rm]; omega)) (px_rd_of (by first | exact R.o | assumption)) (t_M_next A R FF hg b6 b7 b4.2 b5.2 d3 hv16 hc2 e11 (by omega) j3 ?_)
            unfold stI at k
            rw [nr.1] at k ⊢
            generalize nxN wd ht (h (6 + g)) c i = o at k on1 on2 ⊢
            rw [if_neg (nI_pos (by omega)), nI_clamp (by omega)] at k
            refine pg_istore4 X d_M_act_85 ?_
            refine pg_aload_n X d_M_act_87 rfl ?_
            refine pg_getf X (f_M_48 hG) d_M_act_88 (px_rd_of (by first | exact R.o | exact R _ (by decide) | assumption)) rfl ?_
            refine pg_iload_n X d_M_act_91 rfl ?_
            refine pg_aload_n X d_M_act_92 rfl ?_
            refine pg_iload X d_M_act_93 rfl ?_
            refine pc_V (ci := 4) (As := [_]) X Y d_M_act_95 (c_M_109 hG) (i_M_crowdOf hG) (v_M_crowdOf hG) (fun r h => by rw [hG.2] at h; cases h; rfl) rfl rfl (Nat.le_of_ble_eq_true rfl) (by rw [hR]; exact ⟨by decide, by decide⟩) (by decide) (by decide) (by rw [hR]; first | decide | (dsimp only [px_rm]; omega)) (by rw [hR]; first | decide | (dsimp only [px_rm]; omega)) (px_rd_of (by first | exact R.o | assumption)) (t_M_crowdOf A R W1.1 htl ?_)
            rw [W1.cr g8 on1]
            refine pg_aload_n X d_M_act_98 rfl ?_
            refine pg_getf X (f_M_29 hG) d_M_act_99 (px_rd_of (by first | exact R.o | exact R _ (by decide) | assumption)) rfl ?_
            rw [C.2.2.2.2.2.1]
            refine pg_icmp_ge X d_M_act_102 (fun c3 => ?_) (fun c3 => ?_)
            · rw [if_neg (k2_nlt c3)] at k
              refine pg_aload_n X d_M_act_110 rfl ?_
              refine pg_getf X (f_M_48 hG) d_M_act_111 (px_rd_of (by first | exact R.o | exact R _ (by decide) | assumption)) rfl ?_
              refine pg_iload_n X d_M_act_114 rfl ?_
              refine pg_ialdN X d_M_act_115 (px_rd_of (by first | exact R.o | exact R _ (by decide) | assumption)) (by first | assumption | omega) (by first | assumption | omega) ?_
              refine pm_ist X S (fun _ => rfl) (by decide) d_M_act_116 (by first | assumption | omega) (by first | assumption | omega) (fun π1 S => ?_)
              have R := S.1
              refine pg_goto X d_M_act_117 ?_
              exact pg_vret X Y d_M_act_161 (by decide) (Nat.zero_le _) (Nat.zero_le _) (k _ _ W1.same (Q1.mu (by decide) (by decide) (by decide)) (R1.tr (FrM.up (by omega))) S)
            · rw [if_pos (k2_lt c3)] at k
              refine pg_iload X d_M_act_105 rfl ?_
              refine pg_goto X d_M_act_107 ?_
              refine pm_ist X S (fun _ => rfl) (by decide) d_M_act_116 (by first | assumption | omega) (by first | assumption | omega) (fun π1 S => ?_)
              have R := S.1
              refine pg_goto X d_M_act_117 ?_
              exact pg_vret X Y d_M_act_161 (by decide) (Nat.zero_le _) (Nat.zero_le _) (k _ _ (W1.step hv (by rw [g9, g6', mgI_g hg10])) Q1.step (R1.tr (FrM.up (by omega))) S)
        · exact absurd c1 (nI_nm1 (by omega))
      · exact absurd j2 hr
  have hV := I v hv
  obtain ⟨⟨gr, gr1, gr2⟩, hKS, -, ⟨bb, bb1, bb2⟩, h9, -, -⟩ := hV
  have hgr0 : 0 ≤ w (6 + v) 2 := by rw [gr2]; exact nI_pos' (by omega)
  have ec : (w (6 + v) 5).toNatClampNeg = c := by rw [hc1, nI_clamp (by omega)]
  have e11 : μ 11 v = nI c := by rw [(W.2 v hv).2.2.2.2.1 h1, hc1]
  obtain ⟨xo, hxo, hxo2⟩ : ∃ xo, chV h w v c nt nd = px_ov xo ∧ ∀ g, xo = some g → isG nt nd g ∧ ¬ h (6 + g) c = -1 := by
    have nd1 : ∃ xo, (ndS h c nd).1 = px_ov xo ∧ ∀ g, xo = some g → isG nt nd g ∧ ¬ h (6 + g) c = -1 := by
      rcases ndS_inv (h := h) (c := c) nd with q | ⟨e, e1, e2, e3⟩
      · exact ⟨none, by rw [q]; rfl, fun g q => by cases q⟩
      · refine ⟨some (6 + e), by rw [e2]; rfl, fun g q => ?_⟩
        cases q
        exact ⟨Or.inr (by omega), by rw [show 6 + (6 + e) = 12 + e by omega]; exact e3⟩
    unfold chV
    split
    · rename_i q
      rcases chT_ok (w := w) (v := v) (c := c) HH.1 b6 with q2 | ⟨t, t1, t2, t3⟩
      · exact absurd q2 q.2
      · refine ⟨some t, t2, fun g q => ?_⟩
        cases q
        exact ⟨Or.inl t1, t3.2⟩
    · exact nd1
  have hxgx : gx (chV h w v c nt nd) := by
    cases xo with
    | none => exact Or.inl hxo
    | some g => exact Or.inr ⟨g, isG_10 b6 b7 (hxo2 g rfl).1, hxo⟩
  have rows : ∀ z j, j ≠ 6 → j ≠ 7 → trn w v (chV h w v c nt nd) (6 + z) j = w (6 + z) j := fun z j h6 h7 => by
    by_cases q : z = v
    · rw [q, trn_j h6 h7]
    · rw [trn_o q]
  have prt : ∀ μ1 π1 x4, CW h (trn w v (chV h w v c nt nd)) μ1 nd tl → μ1 12 v = mgI (chV h w v c nt nd) → CC b w μ1 ht → FrM μ μ1 tl → SM zm μ1 π0 π1 → dG h w v = -1 → px_G Γ G (px_Q Γ G true K) true 0 0 57 [some (.ref zm), some (.int (nI v)), some (.int fl), none, x4] [] π1 := by
    intro μ1 π1 x4 W1 h12 Q1 R1 S1 hd
    refine part2 (trn w v (chV h w v c nt nd)) μ1 π1 xo x4 (fun z hz => ?_) (fun z hz => ?_) ?_ ?_ ?_ ?_ hxo2 ?_ W1 ?_ ?_ R1 S1 ?_
    · by_cases q : z = v
      · rw [q, trn_6]; exact hxgx
      · rw [trn_o q]; exact gxs z hz
    · rw [rows z 8 (by decide) (by decide)]
      exact (I z hz).2.2.2.1
    · rw [rows v 2 (by decide) (by decide)]; exact hgr0
    · rw [rows v 4 (by decide) (by decide)]; exact h1
    · rw [rows v 5 (by decide) (by decide)]; exact hc1
    · rw [trn_6]; exact hxo
    · intro x hx
      rw [trn_r (by omega), Q x hx]
      congr 1
      exact cn_cong tl (fun u hu => by rw [rows u 4 (by decide) (by decide), rows u 5 (by decide) (by decide)])
    · rw [trn_6]; exact h12
    · exact Q1.wr (trn_r (by omega)) (trn_r (by omega)) (fun d hd => by rw [trn_r (by omega)])
    · unfold goW goA
      rw [if_pos hd, ec]
  have cho : dG h w v = -1 → ∀ x4, px_G Γ G (px_Q Γ G true K) true 0 0 27 [some (.ref zm), some (.int (nI v)), some (.int fl), none, x4] [] π := by
    intro hd x4
    have fin : ∀ y, y = mgI (chV h w v c nt nd) → px_G Γ G (px_Q Γ G true K) true 0 0 49 [some (.ref zm), some (.int (nI v)), some (.int fl), none, x4] [.int y, .int (nI v), .ref (zm + 12)] π := by
      intro y hy
      rw [hy]
      refine pm_ist X S (fun _ => rfl) (by decide) d_M_act_49 (by first | assumption | omega) (by first | assumption | omega) (fun π1 S => ?_)
      have R := S.1
      refine pg_aload_n X d_M_act_50 rfl ?_
      refine pg_getf X (f_M_54 hG) d_M_act_51 (px_rd_of (by first | exact R.o | exact R _ (by decide) | assumption)) rfl ?_
      refine pg_iload_n X d_M_act_54 rfl ?_
      refine pg_iconst X (0) d_M_act_55 (by decide) ?_
      refine pm_ist X S (fun _ => rfl) (by decide) d_M_act_56 (by first | assumption | omega) (by first | assumption | omega) (fun π1 S => ?_)
      have R := S.1
      exact prt _ _ _ (W.turn hv) (by rw [up2_r (by decide), up2_s]) ((Qc.mu (by decide) (by decide) (by decide)).mu (by decide) (by decide) (by decide)) ((FrM.up (by omega)).tr (FrM.up (by omega))) S hd
    obtain ⟨sd, sd1, sd2⟩ := HH.2
    refine pg_aload_n X d_M_act_27 rfl ?_
    refine pg_getf X (f_M_51 hG) d_M_act_28 (px_rd_of (by first | exact R.o | exact R _ (by decide) | assumption)) rfl ?_
    refine pg_iload_n X d_M_act_31 rfl ?_
    refine pg_iload_n X d_M_act_32 rfl ?_
    refine pg_if_eq X d_M_act_33 (fun c1 => ?_) (fun c1 => ?_)
    · have h04 := hfl.mp c1
      refine pg_aload_n X d_M_act_44 rfl ?_
      refine pg_iload_n X d_M_act_45 rfl ?_
      refine pc_V (ci := 4) (As := [_]) X Y d_M_act_46 (c_M_149 hG) (i_M_chosen hG) (v_M_chosen hG) (fun r h => by rw [hG.2] at h; cases h; rfl) rfl rfl (Nat.le_of_ble_eq_true rfl) (by rw [hR]; exact ⟨by decide, by decide⟩) (by decide) (by decide) (by rw [hR]; first | decide | (dsimp only [px_rm]; omega)) (by rw [hR]; first | decide | (dsimp only [px_rm]; omega)) (px_rd_of (by first | exact R.o | assumption)) (t_M_chosen A R FF C b6 b7 b5.2 hv htl hcl e11 bb1 bb2 (W.2 v hv).2.2.2.2.2.2.2 h9 (fun u hu => (W.2 u hu).2.2.1) hgr0 hKS HH.1 sd2 sd1 ?_)
      refine fin _ ?_
      unfold chN chV
      congr 1
      by_cases q : w (6 + v) 9 < h 0 6 ∧ ¬ chT h w v c nt = -1
      · rw [if_pos q, if_pos ⟨⟨h04, q.1⟩, q.2⟩]
      · rw [if_neg q, if_neg (fun q2 => q ⟨q2.1.2, q2.2⟩)]
    · have h04 : ¬ w 0 4 = 0 := fun q => c1 (hfl.mpr q)
      refine pg_aload_n X d_M_act_36 rfl ?_
      refine pg_iload_n X d_M_act_37 rfl ?_
      refine pc_V (ci := 4) (As := [_]) X Y d_M_act_38 (c_M_139 hG) (i_M_nearest hG) (v_M_nearest hG) (fun r h => by rw [hG.2] at h; cases h; rfl) rfl rfl (Nat.le_of_ble_eq_true rfl) (by rw [hR]; exact ⟨by decide, by decide⟩) (by decide) (by decide) (by rw [hR]; first | decide | (dsimp only [px_rm]; omega)) (by rw [hR]; first | decide | (dsimp only [px_rm]; omega)) (px_rd_of (by first | exact R.o | assumption)) (t_M_nearest A R FF C.2.2.2.2.1 b7 b5.2 hv16 hcl e11 ?_)
      refine pg_goto X d_M_act_41 ?_
      refine fin _ ?_
      unfold chV
      rw [if_neg (fun q2 => h04 q2.1.1)]
  have hgoal := (W.2 v hv).2.2.2.2.2.1
  have mgb : ∀ g, g < 10 → mg g < 14 := fun g hg => by unfold mg; split <;> omega
  refine pg_aload_n X d_M_act_0 rfl ?_
  refine pg_getf X (f_M_51 hG) d_M_act_1 (px_rd_of (by first | exact R.o | exact R _ (by decide) | assumption)) rfl ?_
  refine pg_iload_n X d_M_act_4 rfl ?_
  refine pg_ialdN X d_M_act_5 (px_rd_of (by first | exact R.o | exact R _ (by decide) | assumption)) (by first | assumption | omega) (by first | assumption | omega) ?_
  refine pg_iconst X (-1) d_M_act_6 (by decide) ?_
  cases o with
  | none =>
    have g0 : w (6 + v) 6 = -1 := ho1
    have hd : dG h w v = -1 := by unfold dG; rw [if_pos (by rw [g0]; decide)]
    rcases hgoal with q | ⟨q1, q2, q3, q4⟩
    · rw [q, g0, mgI_n]
      refine pg_icmp_eq X d_M_act_7 (fun c1 => ?_) (fun c1 => ?_)
      · exact cho hd _
      · exact absurd rfl c1
    · rw [ec] at q4
      have ex : chV h w v c nt nd = (ndS h c nd).1 := by unfold chV; rw [if_neg (fun q => q1 q.1.1)]
      rw [q4]
      rcases ndS_inv (h := h) (c := c) nd with r | ⟨e, e1, e2, e3⟩
      · rw [r, mgI_n]
        refine pg_icmp_eq X d_M_act_7 (fun c1 => ?_) (fun c1 => ?_)
        · exact cho hd _
        · exact absurd rfl c1
      · have em : mgI (ndS h c nd).1 = nI (mg (6 + e)) := by rw [e2, mgI_g (by omega)]
        have := mgb (6 + e) (by omega)
        rw [em]
        refine pg_icmp_eq X d_M_act_7 (fun c1 => ?_) (fun c1 => ?_)
        · exact absurd c1 (nI_nm1 (by omega))
        refine pg_aload_n X d_M_act_10 rfl ?_
        refine pg_iload_n X d_M_act_11 rfl ?_
        refine pg_aload_n X d_M_act_12 rfl ?_
        refine pg_getf X (f_M_51 hG) d_M_act_13 (px_rd_of (by first | exact R.o | exact R _ (by decide) | assumption)) rfl ?_
        refine pg_iload_n X d_M_act_16 rfl ?_
        refine pg_ialdN X d_M_act_17 (px_rd_of (by first | exact R.o | exact R _ (by decide) | assumption)) (by first | assumption | omega) (by first | assumption | omega) ?_
        rw [q4, em]
        refine pc_V (ci := 4) (As := [_, _]) X Y d_M_act_18 (c_M_133 hG) (i_M_distance hG) (v_M_distance hG) (fun r h => by rw [hG.2] at h; cases h; rfl) rfl rfl (Nat.le_of_ble_eq_true rfl) (by rw [hR]; exact ⟨by decide, by decide⟩) (by decide) (by decide) (by rw [hR]; first | decide | (dsimp only [px_rm]; omega)) (by rw [hR]; first | decide | (dsimp only [px_rm]; omega)) (px_rd_of (by first | exact R.o | assumption)) (t_M_distance A R hv16 (by omega) hcl2 e11 ?_)
        refine pg_sipush X (10000) d_M_act_21 (by decide) ?_
        have fe := fdv_c hcl (FF (6 + e) (Or.inr (by omega)) c hcl2)
        rw [show 6 + (6 + e) = 12 + e by omega] at fe
        rcases fe with ⟨j, j1, j2, j3, j4⟩ | ⟨j1, j2⟩
        · rw [j2, eF]
          refine pg_icmp_lt X d_M_act_24 (fun c2 => ?_) (fun c2 => ?_)
          · refine prt μ π _ (W.lazy hv (by rw [q4, ex]) (fun t ht q => ?_)) (by rw [q4, ex]) Qc FrM.rf S hd
            rw [ex, e2] at q
            have := (nI_eq (by omega) (by omega)).mp q
            omega
          · simp (disch := omega) only [Int32.lt_iff_toInt_lt, Int32.le_iff_toInt_le, nI_toInt, px_l0, px_l1, px_l2, px_l3, px_l4, px_l5, px_l6, px_l10, px_l11, px_l12, px_l16, px_l30, px_l100, px_l400] at c2
            omega
        · exact absurd j2 e3
  | some g =>
    have g0 : w (6 + v) 6 = nI g := ho1
    have hg := ho2 g rfl
    have hg10 := isG_10 b6 b7 hg
    have hm := mgb g hg10
    have hq : μ 12 v = nI (mg g) := by
      rcases hgoal with q | ⟨q1, q2, q3, q4⟩
      · rw [q, g0, mgI_g hg10]
      · rw [g0] at q3
        exact absurd q3 (nI_nm1 (by omega))
    have hd : dG h w v = h (6 + g) c := by
      unfold dG
      rw [ec, g0, nI_clamp (by omega), if_neg (nI_pos (by omega))]
    rw [hq]
    refine pg_icmp_eq X d_M_act_7 (fun c1 => ?_) (fun c1 => ?_)
    · exact absurd c1 (nI_nm1 (by omega))
    refine pg_aload_n X d_M_act_10 rfl ?_
    refine pg_iload_n X d_M_act_11 rfl ?_
    refine pg_aload_n X d_M_act_12 rfl ?_
    refine pg_getf X (f_M_51 hG) d_M_act_13 (px_rd_of (by first | exact R.o | exact R _ (by decide) | assumption)) rfl ?_
    refine pg_iload_n X d_M_act_16 rfl ?_
    refine pg_ialdN X d_M_act_17 (px_rd_of (by first | exact R.o | exact R _ (by decide) | assumption)) (by first | assumption | omega) (by first | assumption | omega) ?_
    rw [hq]
    refine pc_V (ci := 4) (As := [_, _]) X Y d_M_act_18 (c_M_133 hG) (i_M_distance hG) (v_M_distance hG) (fun r h => by rw [hG.2] at h; cases h; rfl) rfl rfl (Nat.le_of_ble_eq_true rfl) (by rw [hR]; exact ⟨by decide, by decide⟩) (by decide) (by decide) (by rw [hR]; first | decide | (dsimp only [px_rm]; omega)) (by rw [hR]; first | decide | (dsimp only [px_rm]; omega)) (px_rd_of (by first | exact R.o | assumption)) (t_M_distance A R hv16 hg10 hcl2 e11 ?_)
    refine pg_sipush X (10000) d_M_act_21 (by decide) ?_
    rcases fdv_c hcl (FF g hg c hcl2) with ⟨j, j1, j2, j3, j4⟩ | ⟨j1, j2⟩
    · rw [j2, eF]
      refine pg_icmp_lt X d_M_act_24 (fun c2 => ?_) (fun c2 => ?_)
      · refine part2 w μ π (some g) _ gxs (fun z hz => (I z hz).2.2.2.1) hgr0 h1 hc1 ho1 (fun g' q => by cases q; exact ⟨hg, j4⟩) Q W (by rw [hq, g0, mgI_g hg10]) Qc FrM.rf S ?_
        unfold goW goA
        rw [if_neg (by rw [hd]; exact j4)]
      · simp (disch := omega) only [Int32.lt_iff_toInt_lt, Int32.le_iff_toInt_le, nI_toInt, px_l0, px_l1, px_l2, px_l3, px_l4, px_l5, px_l6, px_l10, px_l11, px_l12, px_l16, px_l30, px_l100, px_l400] at c2
        omega
    · rw [j1, eF]
      refine pg_icmp_lt X d_M_act_24 (fun c2 => ?_) (fun c2 => ?_)
      · exact absurd c2 (by decide)
      · exact cho (by rw [hd]; exact j2) _
end ACT
