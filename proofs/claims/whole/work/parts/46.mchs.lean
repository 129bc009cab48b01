/-! THE MODEL: chosen -/
theorem sb_or : ∀ b, b < 64 → ∀ t, t < 6 → nI b ||| ((1 : Int32) <<< (nI t &&& 31)) = nI (b ||| 2 ^ t) ∧ (b ||| 2 ^ t) < 64 ∧ ∀ u, u < 6 → px_sb (nI (b ||| 2 ^ t)) (nI u) = if u = t then 1 else px_sb (nI b) (nI u) := by decide +kernel
theorem sb_01 : ∀ b, b < 64 → ∀ t, t < 6 → px_sb (nI b) (nI t) = 0 ∨ px_sb (nI b) (nI t) = 1 := by decide +kernel
theorem sb_0 : ∀ t, t < 6 → px_sb 0 (nI t) = 0 := by decide +kernel
theorem mny_6 : ∀ b, b < 64 → (mny (nI b) 6).toNatClampNeg ≤ 6 ∧ mny (nI b) 6 = nI (mny (nI b) 6).toNatClampNeg := by decide +kernel
theorem irm_n {a d : Nat} (ha : a < 2 ^ 31) (h0 : 0 < d) (hd : d < 2 ^ 31) : irm (nI a) (nI d) = nI (a % d) := pk_rem ha h0 hd
section CHS
variable {l : Launch} {G : px_Cg} {π π0 : px_H} {K : Option Value ⊕ String → px_H → Prop} {zm n nt nd wd ht c v tl : Nat} {μ h w : Nat → Nat → Int32}
/-- interests are 1 .. 100, stays 1 .. 30 -/
def hIN (h : Nat → Nat → Int32) (nt : Nat) : Prop := ∀ t, t < nt → ∃ x, 1 ≤ x ∧ x ≤ 100 ∧ h 3 t = nI x
def opn (h w : Nat → Nat → Int32) (v c t : Nat) : Prop := px_sb (w (6 + v) 8) (nI t) = 0 ∧ ¬ h (6 + t) c = -1
noncomputable def smN (h w : Nat → Nat → Int32) (v c : Nat) : Nat → Nat
  | 0 => 0
  | t + 1 => smN h w v c t + px_if (opn h w v c t) (h 3 t).toNatClampNeg 0
theorem smN_le (HI : hIN h nt) : ∀ t, t ≤ nt → smN h w v c t ≤ 100 * t
  | 0, _ => Nat.le_refl 0
  | t + 1, ht => by
    have h1 := smN_le HI t (by omega)
    obtain ⟨x, x1, x2, x3⟩ := HI t (by omega)
    show smN h w v c t + px_if (opn h w v c t) (h 3 t).toNatClampNeg 0 ≤ _
    rw [x3, nI_clamp (by omega)]
    by_cases q : opn h w v c t
    · rw [px_if_t q]; omega
    · rw [px_if_f q]; omega
theorem ct_1 (HI : hIN h nt) (hnt : nt ≤ 6) : ∀ t, t ≤ nt → (ctS h w v c t).2 = nI (smN h w v c t) ∧ ∃ b, b < 64 ∧ (ctS h w v c t).1 = nI b ∧ ∀ u, u < 6 → px_sb (nI b) (nI u) = px_if (u < t ∧ opn h w v c u) 1 0
  | 0, _ => ⟨rfl, 0, by decide, rfl, fun u hu => by rw [px_if_f (fun q => Nat.not_lt_zero u q.1)]; exact sb_0 u hu⟩
  | t + 1, ht => by
    obtain ⟨h1, b, b1, b2, b3⟩ := ct_1 HI hnt t (by omega)
    obtain ⟨x, x1, x2, x3⟩ := HI t (by omega)
    by_cases q : opn h w v c t
    · have e : ctS h w v c (t + 1) = ((ctS h w v c t).1 ||| ((1 : Int32) <<< (nI t &&& 31)), (ctS h w v c t).2 + h 3 t) := if_pos q
      rw [e]
      obtain ⟨o1, o2, o3⟩ := sb_or b b1 t (by omega)
      refine ⟨?_, b ||| 2 ^ t, o2, by rw [b2]; exact o1, fun u hu => ?_⟩
      · show (ctS h w v c t).2 + h 3 t = nI (smN h w v c t + px_if (opn h w v c t) (h 3 t).toNatClampNeg 0)
        rw [px_if_t q, h1, x3, nI_clamp (by omega), nI_add]
      · rw [o3 u hu]
        by_cases q2 : u = t
        · rw [if_pos q2, px_if_t ⟨by omega, by rw [q2]; exact q⟩]
        · rw [if_neg q2, b3 u hu]
          by_cases q3 : u < t ∧ opn h w v c u
          · rw [px_if_t q3, px_if_t ⟨by omega, q3.2⟩]
          · rw [px_if_f q3, px_if_f (fun q4 => q3 ⟨by omega, q4.2⟩)]
    · have e : ctS h w v c (t + 1) = ctS h w v c t := if_neg q
      rw [e]
      refine ⟨?_, b, b1, b2, fun u hu => ?_⟩
      · show (ctS h w v c t).2 = nI (smN h w v c t + px_if (opn h w v c t) (h 3 t).toNatClampNeg 0)
        rw [px_if_f q, h1, Nat.add_zero]
      · rw [b3 u hu]
        by_cases q3 : u < t ∧ opn h w v c u
        · rw [px_if_t q3, px_if_t ⟨by omega, q3.2⟩]
        · rw [px_if_f q3, px_if_f (fun q4 => q3 ⟨by
            have : u ≠ t := fun e2 => q (by rw [← e2]; exact q4.2)
            omega, q4.2⟩)]
/-- luck is below 65537 -/
theorem luck_n {sd k m : Nat} (h1 : h 0 2 = nI sd) (h2 : sd ≤ 65536) (h3 : w (6 + v) 3 = nI k) (h4 : k < 16) (h5 : w (6 + v) 9 = nI m) (h6 : m ≤ 6) : ∃ L, L < 65537 ∧ luckV h w v = nI L := by
  have st : ∀ z, z < 65537 → ∃ z', z' < 65537 ∧ lst (nI z) = nI z' := fun z hz => by
    refine ⟨(75 * z + 74) % 65537, Nat.mod_lt _ (by decide), ?_⟩
    unfold lst
    rw [show (75 : Int32) = nI 75 from rfl, show (74 : Int32) = nI 74 from rfl, show (65537 : Int32) = nI 65537 from rfl, pk_mul, nI_add, irm_n (by omega) (by decide) (by decide)]
  obtain ⟨z1, a1, b1⟩ := st ((sd + 7919 * k + 101 * m) % 65537) (Nat.mod_lt _ (by decide))
  obtain ⟨z2, a2, b2⟩ := st z1 a1
  obtain ⟨z3, a3, b3⟩ := st z2 a2
  refine ⟨z3, a3, ?_⟩
  unfold luckV
  rw [h1, h3, h5, show (7919 : Int32) = nI 7919 from rfl, show (101 : Int32) = nI 101 from rfl, show (65537 : Int32) = nI 65537 from rfl, pk_mul, pk_mul, nI_add, nI_add, irm_n (by omega) (by decide) (by decide), b1, b2, b3]
def lsN : Nat → Int32 → Int32
  | 0, z => z
  | r + 1, z => lsN r (lst z)
theorem luck_3 : lsN 3 (irm (h 0 2 + 7919 * w (6 + v) 3 + 101 * w (6 + v) 9) 65537) = luckV h w v := rfl
/-- what is chosen when nobody flees -/
def chN (h w : Nat → Nat → Int32) (i c nt nd : Nat) : Int32 := if w (6 + i) 9 < h 0 6 ∧ ¬ chT h w i c nt = -1 then chT h w i c nt else (ndS h c nd).1
theorem t_M_chosen (A : GA G) (R : RM zm μ π) (FF : FM h ht nt nd (μ 21)) (C : CH h μ wd ht nt nd) (hnt : nt ≤ 6) (hnd : nd ≤ 4) (hht : ht ≤ 12) (hv : v < tl) (htl : tl ≤ 16) (hc : c < 12 * ht) (hcv : μ 11 v = nI c) {b : Nat} (hb : b < 64) (hsb : w (6 + v) 8 = nI b) (hse : μ 14 v = w (6 + v) 8) (hcn : w (6 + v) 9 = mny (w (6 + v) 8) 6)
    (hg : ∀ u, u < tl → μ 9 u = w (6 + u) 2) (hgr : 0 ≤ w (6 + v) 2) (hk : KS w v) (HI : hIN h nt) {sd : Nat} (hsd : h 0 2 = nI sd) (hsd2 : sd ≤ 65536) (k : K (.inl (some (.int (mgI (chN h w v c nt nd))))) π) :
    px_P l G y_M_chosen b_M_chosen 7 (some .int) (px_rm 3 72) false [.ref zm, .int (nI v)] π K := by
  have hG := A.1
  have hZ := A.2.1
  refine px_P.intro (by decide) hZ (by simp [Value.category]) (Nat.le_of_ble_eq_true rfl) rfl ?_
  intro Γ hl hR X Y hnm hs hbel
  subst hl
  have hv16 : v < 16 := by omega
  have eF : (10000 : Int32) = nI 10000 := rfl
  have em : ∀ t, t < 6 → nI t = nI (mg t) := fun t ht => by
    have : mg t = t := if_pos ht
    rw [this]
  have fd : ∀ t, t < nt → (∃ j, j < 10000 ∧ μ 21 (144 * t + c) = nI j ∧ ¬ h (6 + t) c = -1) ∨ (μ 21 (144 * t + c) = nI 10000 ∧ h (6 + t) c = -1) := fun t ht2 => by
    rcases fdv_c hc (FF t (Or.inl ht2) c (by omega)) with ⟨j, j1, j2, j3, j4⟩ | q
    · exact Or.inl ⟨j, j1, j2, j4⟩
    · exact Or.inr q
  have hm6 := mny_6 b hb
  rw [← hsb, ← hcn] at hm6
  obtain ⟨ky, ky1, ky2, -⟩ := id hk
  obtain ⟨L, hL1, hL2⟩ := luck_n (h := h) (w := w) (v := v) hsd hsd2 ky2 (by omega) hm6.2 hm6.1
  obtain ⟨ct2, ob, ob1, ob2, ob3⟩ := ct_1 (w := w) (v := v) (c := c) HI hnt nt (Nat.le_refl nt)
  have hsm := smN_le (w := w) (v := v) (c := c) HI nt (Nat.le_refl nt)
  have near : ∀ x3 x4 x5 x6, chN h w v c nt nd = (ndS h c nd).1 → px_G Γ G (px_Q Γ G false K) false 0 0 96 [some (.ref zm), some (.int (nI v)), some (.int (w (6 + v) 9)), x3, x4, x5, x6] [] π := by
    intro x3 x4 x5 x6 e
    refine pg_aload_n X d_M_chosen_96 rfl ?_
    refine pg_iload_n X d_M_chosen_97 rfl ?_
    refine pc_V (ci := 4) (As := [_]) X Y d_M_chosen_98 (c_M_139 hG) (i_M_nearest hG) (v_M_nearest hG) (fun r h => by rw [hG.2] at h; cases h; rfl) rfl rfl (Nat.le_of_ble_eq_true rfl) (by rw [hR]; exact ⟨by decide, by decide⟩) (by decide) (by decide) (by rw [hR]; first | decide | (dsimp only [px_rm]; omega)) (by rw [hR]; first | decide | (dsimp only [px_rm]; omega)) (px_rd_of (by first | exact R.o | assumption)) (t_M_nearest A R FF C.2.2.2.2.1 hnd hht hv16 hc hcv ?_)
    rw [e] at k
    exact pg_iret X Y d_M_chosen_101 rfl (by decide) (Nat.zero_le _) (Nat.zero_le _) (k)
  -- the last loop
  have find : 0 < smN h w v c nt → w (6 + v) 9 < h 0 6 → ∀ r t z x6, t + r = nt → z < smN h w v c nt - smN h w v c t → ctR h (ctS h w v c nt).1 r t (nI z) = chT h w v c nt → smN h w v c t ≤ smN h w v c nt → px_G Γ G (px_Q Γ G false K) false 0 0 163 [some (.ref zm), some (.int (nI v)), some (.int (w (6 + v) 9)), some (.int (nI (smN h w v c nt))), some (.int (nI z)), some (.int (nI t)), x6] [] π := by
    intro hpos hpat r
    induction r with
    | zero =>
      intro t z x6 ht2 hz
      have : t = nt := by omega
      subst this
      omega
    | succ r ih =>
      intro t z x6 ht2 hz hq hle
      have htn : t < nt := by omega
      obtain ⟨x, x1, x2, x3⟩ := HI t htn
      have eI : μ 3 t = nI x := by rw [(C.2.2.2.2.2.2.2.2.1 t htn).2.1]; exact x3
      have eS : smN h w v c (t + 1) = smN h w v c t + px_if (opn h w v c t) x 0 := by
        show smN h w v c t + px_if (opn h w v c t) (h 3 t).toNatClampNeg 0 = _
        rw [x3, nI_clamp (by omega)]
      have mono : smN h w v c (t + 1) ≤ smN h w v c nt := by
        have : ∀ r t, t + r = nt → smN h w v c t ≤ smN h w v c nt := by
          intro r
          induction r with
          | zero => intro t e; rw [show t = nt by omega]; exact Nat.le_refl _
          | succ r ih2 =>
            intro t e
            have h1 := ih2 (t + 1) (by omega)
            have h2 : smN h w v c t ≤ smN h w v c (t + 1) := Nat.le_add_right _ _
            omega
        exact this r (t + 1) (by omega)
      have eR : ctR h (ctS h w v c nt).1 (r + 1) t (nI z) = if px_sb (ctS h w v c nt).1 (nI t) = 0 then ctR h (ctS h w v c nt).1 r (t + 1) (nI z) else if nI z - h 3 t < 0 then nI t else ctR h (ctS h w v c nt).1 r (t + 1) (nI z - h 3 t) := rfl
      have eo : px_sb (ctS h w v c nt).1 (nI t) = px_if (t < nt ∧ opn h w v c t) 1 0 := by rw [ob2]; exact ob3 t (by omega)
      -- going on to the next thing
      have on : ¬ (opn h w v c t ∧ z < x) → px_G Γ G (px_Q Γ G false K) false 0 0 203 [some (.ref zm), some (.int (nI v)), some (.int (w (6 + v) 9)), some (.int (nI (smN h w v c nt))), some (.int (nI z)), some (.int (nI t)), x6] [] π := by
        intro hno
        have no : ¬ opn h w v c t → px_G Γ G (px_Q Γ G false K) false 0 0 234 [some (.ref zm), some (.int (nI v)), some (.int (w (6 + v) 9)), some (.int (nI (smN h w v c nt))), some (.int (nI z)), some (.int (nI t)), x6] [] π := by
          intro q
          rw [px_if_f (fun q2 => q q2.2)] at eo
          rw [px_if_f q, Nat.add_zero] at eS
          rw [eR, if_pos eo] at hq
          refine pg_iconst X (0) d_M_chosen_234 (by decide) ?_
          refine pg_istore6 X d_M_chosen_235 ?_
          refine pg_iload X d_M_chosen_237 rfl ?_
          refine pg_if_eq X d_M_chosen_239 (fun c3 => ?_) (fun c3 => ?_)
          · refine pg_iload X d_M_chosen_255 rfl ?_
            refine pg_istore4 X d_M_chosen_257 ?_
            refine pg_iinc5 X d_M_chosen_259 ?_
            refine pg_goto X d_M_chosen_262 ?_
            rw [nI_i1]
            exact ih (t + 1) z _ (by omega) (by omega) hq mono
          · exact absurd rfl c3
        refine pg_aload_n X d_M_chosen_203 rfl ?_
        refine pg_getf X (f_M_57 hG) d_M_chosen_204 (px_rd_of (by first | exact R.o | exact R _ (by decide) | assumption)) rfl ?_
        refine pg_iload_n X d_M_chosen_207 rfl ?_
        refine pg_ialdN X d_M_chosen_208 (px_rd_of (by first | exact R.o | exact R _ (by decide) | assumption)) (by first | assumption | omega) (by first | assumption | omega) ?_
        refine pg_iload X d_M_chosen_209 rfl ?_
        refine pg_ishr X d_M_chosen_211 ?_
        refine pg_iconst X (1) d_M_chosen_212 (by decide) ?_
        refine pg_iand X d_M_chosen_213 ?_
        rw [hse]
        refine pg_if_ne X d_M_chosen_214 (fun c1 => ?_) (fun c1 => ?_)
        · exact no (fun q => c1 q.1)
        refine pg_aload_n X d_M_chosen_217 rfl ?_
        refine pg_iload_n X d_M_chosen_218 rfl ?_
        refine pg_iload X d_M_chosen_219 rfl ?_
        rw [em t (by omega)]
        refine pc_V (ci := 4) (As := [_, _]) X Y d_M_chosen_221 (c_M_133 hG) (i_M_distance hG) (v_M_distance hG) (fun r h => by rw [hG.2] at h; cases h; rfl) rfl rfl (Nat.le_of_ble_eq_true rfl) (by rw [hR]; exact ⟨by decide, by decide⟩) (by decide) (by decide) (by rw [hR]; first | decide | (dsimp only [px_rm]; omega)) (by rw [hR]; first | decide | (dsimp only [px_rm]; omega)) (px_rd_of (by first | exact R.o | assumption)) (t_M_distance A R hv16 (by omega) (by omega) hcv ?_)
        rw [← em t (by omega)]
        refine pg_sipush X (10000) d_M_chosen_224 (by decide) ?_
        rcases fd t htn with ⟨j, j1, j2, j3⟩ | ⟨j1, j2⟩
        · have ho : opn h w v c t := ⟨c1, j3⟩
          rw [j2, eF]
          refine pg_icmp_ge X d_M_chosen_227 (fun c2 => ?_) (fun c2 => ?_)
          · simp (disch := omega) only [Int32.lt_iff_toInt_lt, Int32.le_iff_toInt_le, nI_toInt, px_l0, px_l1, px_l2, px_l3, px_l4, px_l5, px_l6, px_l10, px_l11, px_l12, px_l16, px_l30, px_l100, px_l400] at c2
            omega
          rw [px_if_t ⟨htn, ho⟩] at eo
          rw [px_if_t ho] at eS
          have hzx : x ≤ z := Nat.not_lt.mp (fun q => hno ⟨ho, q⟩)
          rw [eR, if_neg (by rw [eo]; decide), x3, pk_sub hzx, if_neg (nI_pos (by omega))] at hq
          refine pg_iconst X (1) d_M_chosen_230 (by decide) ?_
          refine pg_goto X d_M_chosen_231 ?_
          refine pg_istore6 X d_M_chosen_235 ?_
          refine pg_iload X d_M_chosen_237 rfl ?_
          refine pg_if_eq X d_M_chosen_239 (fun c3 => ?_) (fun c3 => ?_)
          · exact absurd c3 (by decide)
          refine pg_iload X d_M_chosen_242 rfl ?_
          refine pg_aload_n X d_M_chosen_244 rfl ?_
          refine pg_getf X (f_M_17 hG) d_M_chosen_245 (px_rd_of (by first | exact R.o | exact R _ (by decide) | assumption)) rfl ?_
          refine pg_iload X d_M_chosen_248 rfl ?_
          refine pg_ialdN X d_M_chosen_250 (px_rd_of (by first | exact R.o | exact R _ (by decide) | assumption)) (by first | assumption | omega) (by first | assumption | omega) ?_
          rw [eI]
          refine pg_isub X d_M_chosen_251 ?_
          rw [pk_sub hzx]
          refine pg_goto X d_M_chosen_252 ?_
          refine pg_istore4 X d_M_chosen_257 ?_
          refine pg_iinc5 X d_M_chosen_259 ?_
          refine pg_goto X d_M_chosen_262 ?_
          rw [nI_i1]
          exact ih (t + 1) (z - x) _ (by omega) (by omega) hq mono
        · rw [j1, eF]
          refine pg_icmp_ge X d_M_chosen_227 (fun c2 => ?_) (fun c2 => ?_)
          · exact no (fun q => q.2 j2)
          · exact absurd (by decide) c2
      refine pg_aload_n X d_M_chosen_163 rfl ?_
      refine pg_getf X (f_M_57 hG) d_M_chosen_164 (px_rd_of (by first | exact R.o | exact R _ (by decide) | assumption)) rfl ?_
      refine pg_iload_n X d_M_chosen_167 rfl ?_
      refine pg_ialdN X d_M_chosen_168 (px_rd_of (by first | exact R.o | exact R _ (by decide) | assumption)) (by first | assumption | omega) (by first | assumption | omega) ?_
      refine pg_iload X d_M_chosen_169 rfl ?_
      refine pg_ishr X d_M_chosen_171 ?_
      refine pg_iconst X (1) d_M_chosen_172 (by decide) ?_
      refine pg_iand X d_M_chosen_173 ?_
      refine pg_iconst X (1) d_M_chosen_174 (by decide) ?_
      rw [hse]
      have hsb01 := sb_01 b hb t (by omega)
      rw [← hsb] at hsb01
      refine pg_icmp_eq X d_M_chosen_175 (fun c1 => ?_) (fun c1 => ?_)
      · refine on (fun q => ?_)
        have q1 := q.1.1
        have c1' : px_sb (w (6 + v) 8) (nI t) = 1 := c1
        rw [c1'] at q1
        exact absurd q1 (by decide)
      have s0 : px_sb (w (6 + v) 8) (nI t) = 0 := hsb01.elim (fun q => q) (fun q => absurd q c1)
      refine pg_aload_n X d_M_chosen_178 rfl ?_
      refine pg_iload_n X d_M_chosen_179 rfl ?_
      refine pg_iload X d_M_chosen_180 rfl ?_
      rw [em t (by omega)]
      refine pc_V (ci := 4) (As := [_, _]) X Y d_M_chosen_182 (c_M_133 hG) (i_M_distance hG) (v_M_distance hG) (fun r h => by rw [hG.2] at h; cases h; rfl) rfl rfl (Nat.le_of_ble_eq_true rfl) (by rw [hR]; exact ⟨by decide, by decide⟩) (by decide) (by decide) (by rw [hR]; first | decide | (dsimp only [px_rm]; omega)) (by rw [hR]; first | decide | (dsimp only [px_rm]; omega)) (px_rd_of (by first | exact R.o | assumption)) (t_M_distance A R hv16 (by omega) (by omega) hcv ?_)
      rw [← em t (by omega)]
      refine pg_sipush X (10000) d_M_chosen_185 (by decide) ?_
      rcases fd t htn with ⟨j, j1, j2, j3⟩ | ⟨j1, j2⟩
      · have ho : opn h w v c t := ⟨s0, j3⟩
        rw [j2, eF]
        refine pg_icmp_ge X d_M_chosen_188 (fun c2 => ?_) (fun c2 => ?_)
        · simp (disch := omega) only [Int32.lt_iff_toInt_lt, Int32.le_iff_toInt_le, nI_toInt, px_l0, px_l1, px_l2, px_l3, px_l4, px_l5, px_l6, px_l10, px_l11, px_l12, px_l16, px_l30, px_l100, px_l400] at c2
          omega
        refine pg_iload X d_M_chosen_191 rfl ?_
        refine pg_aload_n X d_M_chosen_193 rfl ?_
        refine pg_getf X (f_M_17 hG) d_M_chosen_194 (px_rd_of (by first | exact R.o | exact R _ (by decide) | assumption)) rfl ?_
        refine pg_iload X d_M_chosen_197 rfl ?_
        refine pg_ialdN X d_M_chosen_199 (px_rd_of (by first | exact R.o | exact R _ (by decide) | assumption)) (by first | assumption | omega) (by first | assumption | omega) ?_
        rw [eI]
        refine pg_icmp_lt X d_M_chosen_200 (fun c3 => ?_) (fun c3 => ?_)
        · simp (disch := omega) only [Int32.lt_iff_toInt_lt, Int32.le_iff_toInt_le, nI_toInt, px_l0, px_l1, px_l2, px_l3, px_l4, px_l5, px_l6, px_l10, px_l11, px_l12, px_l16, px_l30, px_l100, px_l400] at c3
          rw [px_if_t ⟨htn, ho⟩] at eo
          rw [eR, if_neg (by rw [eo]; decide), x3, if_pos (pk_sneg (by omega) (by omega))] at hq
          refine pg_iload X d_M_chosen_265 rfl ?_
          have e1 : chN h w v c nt nd = nI t := by
            unfold chN
            rw [← hq, if_pos ⟨hpat, nI_nm1 (by omega)⟩]
          rw [e1, mgI_g (by omega), ← em t (by omega)] at k
          exact pg_iret X Y d_M_chosen_267 rfl (by decide) (Nat.zero_le _) (Nat.zero_le _) (k)
        · simp (disch := omega) only [Int32.lt_iff_toInt_lt, Int32.le_iff_toInt_le, nI_toInt, px_l0, px_l1, px_l2, px_l3, px_l4, px_l5, px_l6, px_l10, px_l11, px_l12, px_l16, px_l30, px_l100, px_l400] at c3
          exact on (fun q => by omega)
      · rw [j1, eF]
        refine pg_icmp_ge X d_M_chosen_188 (fun c2 => ?_) (fun c2 => ?_)
        · exact on (fun q => q.1.2 j2)
        · exact absurd (by decide) c2
  have mid : ∀ x4 x5 x6, px_G Γ G (px_Q Γ G false K) false 0 0 84 [some (.ref zm), some (.int (nI v)), some (.int (w (6 + v) 9)), some (.int (nI (smN h w v c nt))), x4, x5, x6] [] π := by
    intro x4 x5 x6
    refine pg_iload_n X d_M_chosen_84 rfl ?_
    refine pg_if_eq X d_M_chosen_85 (fun c1 => ?_) (fun c1 => ?_)
    · refine near _ _ _ _ ?_
      have e0 : ¬ 0 < (ctS h w v c nt).2 := by rw [ct2, c1]; decide
      unfold chN chT
      rw [if_neg e0, if_neg (fun q => q.2 rfl)]
    have hpos : 0 < smN h w v c nt := by
      rcases Nat.eq_zero_or_pos (smN h w v c nt) with q | q
      · exact absurd (by rw [q]; rfl) c1
      · exact q
    refine pg_iload_n X d_M_chosen_88 rfl ?_
    refine pg_aload_n X d_M_chosen_89 rfl ?_
    refine pg_getf X (f_M_33 hG) d_M_chosen_90 (px_rd_of (by first | exact R.o | exact R _ (by decide) | assumption)) rfl ?_
    rw [C.2.2.2.2.2.2.1]
    refine pg_icmp_lt X d_M_chosen_93 (fun c2 => ?_) (fun c2 => ?_)
    · refine pg_aload_n X d_M_chosen_102 rfl ?_
      refine pg_getf X (f_M_88 hG) d_M_chosen_103 (px_rd_of (by first | exact R.o | exact R _ (by decide) | assumption)) rfl ?_
      refine pg_sipush X (7919) d_M_chosen_106 (by decide) ?_
      refine pg_aload_n X d_M_chosen_109 rfl ?_
      refine pg_iload_n X d_M_chosen_110 rfl ?_
      refine pc_V (ci := 4) (As := [_]) X Y d_M_chosen_111 (c_M_142 hG) (i_M_key hG) (v_M_key hG) (fun r h => by rw [hG.2] at h; cases h; rfl) rfl rfl (Nat.le_of_ble_eq_true rfl) (by rw [hR]; exact ⟨by decide, by decide⟩) (by decide) (by decide) (by rw [hR]; first | decide | (dsimp only [px_rm]; omega)) (by rw [hR]; first | decide | (dsimp only [px_rm]; omega)) (px_rd_of (by first | exact R.o | assumption)) (t_M_key A R hg hv htl hgr hk ?_)
      rw [C.2.2.1]
      refine pg_imul X d_M_chosen_114 ?_
      refine pg_iadd X d_M_chosen_115 ?_
      refine pg_bipush X (101) d_M_chosen_116 (by decide) ?_
      refine pg_iload_n X d_M_chosen_118 rfl ?_
      refine pg_imul X d_M_chosen_119 ?_
      refine pg_iadd X d_M_chosen_120 ?_
      refine pg_ldc X (65537) d_M_chosen_121 (hG.t (lm_4 (List.mem_of_getElem? (i := 99) rfl))) ?_
      refine pg_irem X d_M_chosen_123 (by decide) ?_
      refine pg_istore4 X d_M_chosen_124 ?_
      refine pg_iconst X (0) d_M_chosen_126 (by decide) ?_
      refine pg_istore5 X d_M_chosen_127 ?_
      have e0 : h 0 2 + 7919 * w (6 + v) 3 + 101 * w (6 + v) 9 - (h 0 2 + 7919 * w (6 + v) 3 + 101 * w (6 + v) 9) / 65537 * 65537 = irm (h 0 2 + 7919 * w (6 + v) 3 + 101 * w (6 + v) 9) 65537 := rfl
      rw [e0]
      have lk : ∀ r i z x6, i + r = 3 → lsN r z = luckV h w v → px_G Γ G (px_Q Γ G false K) false 0 0 129 [some (.ref zm), some (.int (nI v)), some (.int (w (6 + v) 9)), some (.int (nI (smN h w v c nt))), some (.int z), some (.int (nI i)), x6] [] π := by
        intro r
        induction r with
        | zero =>
          intro i z x6 hi hz
          have ei : i = 3 := by omega
          subst ei
          have ez : z = luckV h w v := hz
          rw [ez]
          refine pg_iload X d_M_chosen_129 rfl ?_
          refine pg_iconst X (3) d_M_chosen_131 (by decide) ?_
          refine pg_icmp_ge X d_M_chosen_132 (fun c3 => ?_) (fun c3 => ?_)
          · refine pg_iload X d_M_chosen_154 rfl ?_
            refine pg_iload_n X d_M_chosen_156 rfl ?_
            refine pg_irem X d_M_chosen_157 (nI_ne0 hpos (by omega)) ?_
            rw [hL2]
            have e1 := irm_n (a := L) (d := smN h w v c nt) (by omega) hpos (by omega)
            unfold irm at e1
            rw [e1]
            refine pg_istore4 X d_M_chosen_158 ?_
            refine pg_iconst X (0) d_M_chosen_160 (by decide) ?_
            refine pg_istore5 X d_M_chosen_161 ?_
            refine find hpos c2 nt 0 (L % smN h w v c nt) _ (by omega) (by show _ < smN h w v c nt - 0; have := Nat.mod_lt L hpos; omega) ?_ (Nat.zero_le _)
            unfold chT
            rw [if_pos (by rw [ct2]; exact nI_lt (a := 0) hpos (by omega)), hL2, ct2, irm_n (by omega) hpos (by omega)]
          · exact absurd (by decide) c3
        | succ r ih =>
          intro i z x6 hi hz
          refine pg_iload X d_M_chosen_129 rfl ?_
          refine pg_iconst X (3) d_M_chosen_131 (by decide) ?_
          refine pg_icmp_ge X d_M_chosen_132 (fun c3 => ?_) (fun c3 => ?_)
          · simp (disch := omega) only [Int32.lt_iff_toInt_lt, Int32.le_iff_toInt_le, nI_toInt, px_l0, px_l1, px_l2, px_l3, px_l4, px_l5, px_l6, px_l10, px_l11, px_l12, px_l16, px_l30, px_l100, px_l400] at c3
            omega
          refine pg_bipush X (75) d_M_chosen_135 (by decide) ?_
          refine pg_iload X d_M_chosen_137 rfl ?_
          refine pg_imul X d_M_chosen_139 ?_
          refine pg_bipush X (74) d_M_chosen_140 (by decide) ?_
          refine pg_iadd X d_M_chosen_142 ?_
          refine pg_ldc X (65537) d_M_chosen_143 (hG.t (lm_4 (List.mem_of_getElem? (i := 99) rfl))) ?_
          refine pg_irem X d_M_chosen_145 (by decide) ?_
          refine pg_istore4 X d_M_chosen_146 ?_
          refine pg_iinc5 X d_M_chosen_148 ?_
          refine pg_goto X d_M_chosen_151 ?_
          rw [nI_i1]
          have el : 75 * z + 74 - (75 * z + 74) / 65537 * 65537 = lst z := rfl
          rw [el]
          exact ih (i + 1) (lst z) _ (by omega) hz
      exact lk 3 0 _ _ rfl luck_3
    · refine near _ _ _ _ ?_
      unfold chN
      rw [if_neg (fun q => c2 q.1)]
  have sum : ∀ r t x5 x6, t + r = nt → px_G Γ G (px_Q Γ G false K) false 0 0 16 [some (.ref zm), some (.int (nI v)), some (.int (w (6 + v) 9)), some (.int (nI (smN h w v c t))), some (.int (nI t)), x5, x6] [] π := by
    intro r
    induction r with
    | zero =>
      intro t x5 x6 ht2
      have et : t = nt := by omega
      subst et
      refine pg_iload X d_M_chosen_16 rfl ?_
      refine pg_aload_n X d_M_chosen_18 rfl ?_
      refine pg_getf X (f_M_113 hG) d_M_chosen_19 (px_rd_of (by first | exact R.o | exact R _ (by decide) | assumption)) rfl ?_
      rw [C.2.2.2.1]
      refine pg_icmp_ge X d_M_chosen_22 (fun c1 => ?_) (fun c1 => ?_)
      · exact mid _ _ _
      · simp (disch := omega) only [Int32.lt_iff_toInt_lt, Int32.le_iff_toInt_le, nI_toInt, px_l0, px_l1, px_l2, px_l3, px_l4, px_l5, px_l6, px_l10, px_l11, px_l12, px_l16, px_l30, px_l100, px_l400] at c1
        omega
    | succ r ih =>
      intro t x5 x6 ht2
      have htn : t < nt := by omega
      obtain ⟨x, x1, x2, x3⟩ := HI t htn
      have eI : μ 3 t = nI x := by rw [(C.2.2.2.2.2.2.2.2.1 t htn).2.1]; exact x3
      have eS : smN h w v c (t + 1) = smN h w v c t + px_if (opn h w v c t) x 0 := by
        show smN h w v c t + px_if (opn h w v c t) (h 3 t).toNatClampNeg 0 = _
        rw [x3, nI_clamp (by omega)]
      have no : ¬ opn h w v c t → px_G Γ G (px_Q Γ G false K) false 0 0 56 [some (.ref zm), some (.int (nI v)), some (.int (w (6 + v) 9)), some (.int (nI (smN h w v c t))), some (.int (nI t)), x5, x6] [] π := by
        intro q
        have eS : smN h w v c (t + 1) = smN h w v c t := by rw [eS, px_if_f q]; rfl
        refine pg_iconst X (0) d_M_chosen_56 (by decide) ?_
        refine pg_istore5 X d_M_chosen_57 ?_
        refine pg_iload X d_M_chosen_59 rfl ?_
        refine pg_if_eq X d_M_chosen_61 (fun c3 => ?_) (fun c3 => ?_)
        · refine pg_iload_n X d_M_chosen_76 rfl ?_
          refine pg_istore3 X d_M_chosen_77 ?_
          refine pg_iinc4 X d_M_chosen_78 ?_
          refine pg_goto X d_M_chosen_81 ?_
          rw [nI_i1, ← eS]
          exact ih (t + 1) _ _ (by omega)
        · exact absurd rfl c3
      refine pg_iload X d_M_chosen_16 rfl ?_
      refine pg_aload_n X d_M_chosen_18 rfl ?_
      refine pg_getf X (f_M_113 hG) d_M_chosen_19 (px_rd_of (by first | exact R.o | exact R _ (by decide) | assumption)) rfl ?_
      rw [C.2.2.2.1]
      refine pg_icmp_ge X d_M_chosen_22 (fun c1 => ?_) (fun c1 => ?_)
      · simp (disch := omega) only [Int32.lt_iff_toInt_lt, Int32.le_iff_toInt_le, nI_toInt, px_l0, px_l1, px_l2, px_l3, px_l4, px_l5, px_l6, px_l10, px_l11, px_l12, px_l16, px_l30, px_l100, px_l400] at c1
        omega
      refine pg_aload_n X d_M_chosen_25 rfl ?_
      refine pg_getf X (f_M_57 hG) d_M_chosen_26 (px_rd_of (by first | exact R.o | exact R _ (by decide) | assumption)) rfl ?_
      refine pg_iload_n X d_M_chosen_29 rfl ?_
      refine pg_ialdN X d_M_chosen_30 (px_rd_of (by first | exact R.o | exact R _ (by decide) | assumption)) (by first | assumption | omega) (by first | assumption | omega) ?_
      refine pg_iload X d_M_chosen_31 rfl ?_
      refine pg_ishr X d_M_chosen_33 ?_
      refine pg_iconst X (1) d_M_chosen_34 (by decide) ?_
      refine pg_iand X d_M_chosen_35 ?_
      rw [hse]
      refine pg_if_ne X d_M_chosen_36 (fun c2 => ?_) (fun c2 => ?_)
      · exact no (fun q => c2 q.1)
      refine pg_aload_n X d_M_chosen_39 rfl ?_
      refine pg_iload_n X d_M_chosen_40 rfl ?_
      refine pg_iload X d_M_chosen_41 rfl ?_
      rw [em t (by omega)]
      refine pc_V (ci := 4) (As := [_, _]) X Y d_M_chosen_43 (c_M_133 hG) (i_M_distance hG) (v_M_distance hG) (fun r h => by rw [hG.2] at h; cases h; rfl) rfl rfl (Nat.le_of_ble_eq_true rfl) (by rw [hR]; exact ⟨by decide, by decide⟩) (by decide) (by decide) (by rw [hR]; first | decide | (dsimp only [px_rm]; omega)) (by rw [hR]; first | decide | (dsimp only [px_rm]; omega)) (px_rd_of (by first | exact R.o | assumption)) (t_M_distance A R hv16 (by omega) (by omega) hcv ?_)
      rw [← em t (by omega)]
      refine pg_sipush X (10000) d_M_chosen_46 (by decide) ?_
      rcases fd t htn with ⟨j, j1, j2, j3⟩ | ⟨j1, j2⟩
      · have ho : opn h w v c t := ⟨c2, j3⟩
        rw [px_if_t ho] at eS
        rw [j2, eF]
        refine pg_icmp_ge X d_M_chosen_49 (fun c3 => ?_) (fun c3 => ?_)
        · simp (disch := omega) only [Int32.lt_iff_toInt_lt, Int32.le_iff_toInt_le, nI_toInt, px_l0, px_l1, px_l2, px_l3, px_l4, px_l5, px_l6, px_l10, px_l11, px_l12, px_l16, px_l30, px_l100, px_l400] at c3
          omega
        refine pg_iconst X (1) d_M_chosen_52 (by decide) ?_
        refine pg_goto X d_M_chosen_53 ?_
        refine pg_istore5 X d_M_chosen_57 ?_
        refine pg_iload X d_M_chosen_59 rfl ?_
        refine pg_if_eq X d_M_chosen_61 (fun c4 => ?_) (fun c4 => ?_)
        · exact absurd c4 (by decide)
        refine pg_iload_n X d_M_chosen_64 rfl ?_
        refine pg_aload_n X d_M_chosen_65 rfl ?_
        refine pg_getf X (f_M_17 hG) d_M_chosen_66 (px_rd_of (by first | exact R.o | exact R _ (by decide) | assumption)) rfl ?_
        refine pg_iload X d_M_chosen_69 rfl ?_
        refine pg_ialdN X d_M_chosen_71 (px_rd_of (by first | exact R.o | exact R _ (by decide) | assumption)) (by first | assumption | omega) (by first | assumption | omega) ?_
        rw [eI]
        refine pg_iadd X d_M_chosen_72 ?_
        rw [nI_add, ← eS]
        refine pg_goto X d_M_chosen_73 ?_
        refine pg_istore3 X d_M_chosen_77 ?_
        refine pg_iinc4 X d_M_chosen_78 ?_
        refine pg_goto X d_M_chosen_81 ?_
        rw [nI_i1]
        exact ih (t + 1) _ _ (by omega)
      · rw [j1, eF]
        refine pg_icmp_ge X d_M_chosen_49 (fun c3 => ?_) (fun c3 => ?_)
        · exact no (fun q => q.2 j2)
        · exact absurd (by decide) c3
  refine pg_aload_n X d_M_chosen_0 rfl ?_
  refine pg_aload_n X d_M_chosen_1 rfl ?_
  refine pg_getf X (f_M_57 hG) d_M_chosen_2 (px_rd_of (by first | exact R.o | exact R _ (by decide) | assumption)) rfl ?_
  refine pg_iload_n X d_M_chosen_5 rfl ?_
  refine pg_ialdN X d_M_chosen_6 (px_rd_of (by first | exact R.o | exact R _ (by decide) | assumption)) (by first | assumption | omega) (by first | assumption | omega) ?_
  rw [hse]
  refine pc_V (ci := 4) (As := [_]) X Y d_M_chosen_7 (c_M_136 hG) (i_M_many hG) (v_M_many hG) (fun r h => by rw [hG.2] at h; cases h; rfl) rfl rfl (Nat.le_of_ble_eq_true rfl) (by rw [hR]; exact ⟨by decide, by decide⟩) (by decide) (by decide) (by rw [hR]; first | decide | (dsimp only [px_rm]; omega)) (by rw [hR]; first | decide | (dsimp only [px_rm]; omega)) (px_rd_of (by first | exact R.o | assumption)) (t_M_many A ?_)
  rw [← hcn]
  refine pg_istore2 X d_M_chosen_10 ?_
  refine pg_iconst X (0) d_M_chosen_11 (by decide) ?_
  refine pg_istore3 X d_M_chosen_12 ?_
  refine pg_iconst X (0) d_M_chosen_13 (by decide) ?_
  refine pg_istore4 X d_M_chosen_14 ?_
  exact sum nt 0 none none (by omega)
end CHS
