/-! THE MODEL: measure -/
section MME
variable {l : Launch} {G : px_Cg} {π π0 : px_H} {K : Option Value ⊕ String → px_H → Prop} {zm tl nt nd wd ht fr k c0 : Nat} {μ : Nat → Nat → Int32} {F : Nat → Nat} {wl D : Nat → Int32}
theorem t_M_stU (A : GA G) (R : RM zm μ π) (hf : fr + 144 ≤ 1440) (hF : ∀ c, c < 144 → μ 21 (fr + c) = nI (F c)) (hk : k < 144) (kk : K (.inl (some (.int (nI (bu F k))))) π) : px_P l G y_M_stepAt b_M_stepAt 3 (some .int) (px_rm 1 22) false [.ref zm, .int (nI fr), .int (nI k - 12)] π K := by
  have e12 : (12 : Int32) = nI 12 := rfl
  refine t_M_stepAt A R hf (fun c hc e => ?_) (fun q => ?_)
  · have e2 : nI k = nI (c + 12) := by
      rw [← nI_add, ← e12, ← e, Int32.sub_add_cancel]
    have e3 := (nI_eq (by omega) (by omega)).mp e2
    have eb : bu F k = F c := by unfold bu; rw [if_pos (by omega)]; congr 1; omega
    rw [hF c hc, ← eb]
    exact kk
  · have hn : ¬ 12 ≤ k := fun h12 => q ⟨k - 12, by omega, by
      have e : k = (k - 12) + 12 := by omega
      rw [show nI k = nI ((k - 12) + 12) by rw [← e], ← nI_add, e12, Int32.add_sub_cancel]⟩
    have eb : bu F k = 10000 := if_neg hn
    rw [eb] at kk
    exact kk
theorem t_M_stD (A : GA G) (R : RM zm μ π) (hf : fr + 144 ≤ 1440) (hF : ∀ c, c < 144 → μ 21 (fr + c) = nI (F c)) (hk : k < 144) (kk : K (.inl (some (.int (nI (bd F k))))) π) : px_P l G y_M_stepAt b_M_stepAt 3 (some .int) (px_rm 1 22) false [.ref zm, .int (nI fr), .int (nI k + 12)] π K := by
  have e12 : (12 : Int32) = nI 12 := rfl
  rw [e12, nI_add]
  refine t_M_stepAt A R hf (fun c hc e => ?_) (fun q => ?_)
  · have e3 := (nI_eq (by omega) (by omega)).mp e
    have eb : bd F k = F c := by unfold bd; rw [if_pos (by omega)]; congr 1
    rw [hF c hc, ← eb]
    exact kk
  · have hn : ¬ k + 12 < 144 := fun h12 => q ⟨k + 12, h12, rfl⟩
    have eb : bd F k = 10000 := if_neg hn
    rw [eb] at kk
    exact kk
theorem t_M_stR (A : GA G) (R : RM zm μ π) (hf : fr + 144 ≤ 1440) (hF : ∀ c, c < 144 → μ 21 (fr + c) = nI (F c)) (hk : k < 144) (h11 : k % 12 < 11) (kk : K (.inl (some (.int (nI (F (k + 1)))))) π) : px_P l G y_M_stepAt b_M_stepAt 3 (some .int) (px_rm 1 22) false [.ref zm, .int (nI fr), .int (nI k + 1)] π K := by
  have e1 : nI k + 1 = nI (k + 1) := nI_1 k
  rw [e1]
  refine t_M_stepAt A R hf (fun c hc e => ?_) (fun q => absurd ⟨k + 1, by omega, rfl⟩ q)
  have e3 := (nI_eq (by omega) (by omega)).mp e
  rw [hF c hc, ← e3]
  exact kk
theorem t_M_stL (A : GA G) (R : RM zm μ π) (hf : fr + 144 ≤ 1440) (hF : ∀ c, c < 144 → μ 21 (fr + c) = nI (F c)) (hk : k < 144) (h0 : 0 < k % 12) (kk : K (.inl (some (.int (nI (F (k - 1)))))) π) : px_P l G y_M_stepAt b_M_stepAt 3 (some .int) (px_rm 1 22) false [.ref zm, .int (nI fr), .int (nI k - 1)] π K := by
  have ek : nI k - 1 = nI (k - 1) := by
    have e : k = (k - 1) + 1 := by omega
    rw [show nI k = nI ((k - 1) + 1) by rw [← e], nI_m1]
  rw [ek]
  refine t_M_stepAt A R hf (fun c hc e => ?_) (fun q => absurd ⟨k - 1, by omega, rfl⟩ q)
  have e3 := (nI_eq (by omega) (by omega)).mp e
  rw [hF c hc, ← e3]
  exact kk
/-- x is the model's word for the distance D c -/
def fdv (ht : Nat) (D : Nat → Int32) (c : Nat) (x : Int32) : Prop := (∃ j, j < 10000 ∧ c < 12 * ht ∧ x = nI j ∧ D c = nI j) ∨ (x = nI 10000 ∧ (c < 12 * ht → D c = -1))
theorem t_M_measure (A : GA G) (S : SM zm μ π0 π) (h1 : μ 0 1 = nI wd) (h2 : μ 0 2 = nI ht) (hw : wd ≤ 12) (hh : ht ≤ 12) (hf : fr + 144 ≤ 1440) (hc0 : inC wd ht c0) (hI : isD wd ht wl c0 D) (hwl : ∀ k, k < 12 * ht → μ 1 k = wl k)
    (kk : ∀ f π1, (∀ i, (i < fr ∨ fr + 144 ≤ i) → f i = μ 21 i) → (∀ c, c < 144 → fdv ht D c (f (fr + c))) → SM zm (upr μ 21 f) π0 π1 → K (.inl none) π1) :
    px_P l G y_M_measure b_M_measure 7 none (px_rm 2 44) true [.ref zm, .int (nI fr), .int (nI c0)] π K := by
  have hG := A.1
  have hZ := A.2.1
  refine px_P.intro (by decide) hZ (by simp [Value.category]) (Nat.le_of_ble_eq_true rfl) rfl ?_
  intro Γ hl hR X Y hnm hs hbel
  subst hl
  refine pg_w ?_
  have hc1 := inC_lt hc0
  have hc2 := inC_144 hw hh hc0
  have S : SM zm (upr μ 21 (μ 21)) π0 π := by rw [upr_same]; exact S
  -- the first filling
  have fill : ∀ r i f π1, i + r = 144 → (∀ j, (j < fr ∨ fr + 144 ≤ j) → f j = μ 21 j) → (∀ c, c < i → f (fr + c) = nI (if c = c0 then 0 else 10000)) → SM zm (upr μ 21 f) π0 π1 →
      (∀ f π1, (∀ j, (j < fr ∨ fr + 144 ≤ j) → f j = μ 21 j) → (∀ c, c < 144 → f (fr + c) = nI (if c = c0 then 0 else 10000)) → SM zm (upr μ 21 f) π0 π1 → px_G Γ G (px_Q Γ G true K) true 0 0 37 [some (.ref zm), some (.int (nI fr)), some (.int (nI c0)), some (.int 1), none, none, none] [] π1) →
      px_G Γ G (px_Q Γ G true K) true 0 0 2 [some (.ref zm), some (.int (nI fr)), some (.int (nI c0)), some (.int (nI i)), none, none, none] [] π1 := by
    intro r
    induction r with
    | zero =>
      intro i f π1 hi ho hF S go
      have ei : i = 144 := by omega
      subst ei
      refine pg_iload_n X d_M_measure_2 rfl ?_
      refine pg_sipush X (144) d_M_measure_3 (by decide) ?_
      refine pg_icmp_ge X d_M_measure_6 (fun c1 => ?_) (fun c1 => ?_)
      · refine pg_iconst X (1) d_M_measure_35 (by decide) ?_
        refine pg_istore3 X d_M_measure_36 ?_
        exact go f π1 ho hF S
      · exact absurd (by decide) c1
    | succ r ih =>
      intro i f π1 hi ho hF S go
      have R := S.1
      have e144 : (144 : Int32) = nI 144 := rfl
      have st : ∀ x, x = nI (if i = c0 then 0 else 10000) → px_G Γ G (px_Q Γ G true K) true 0 0 28 [some (.ref zm), some (.int (nI fr)), some (.int (nI c0)), some (.int (nI i)), none, none, none] [.int x, .int (nI (fr + i)), .ref (zm + 21)] π1 := by
        intro x hx
        refine pm_ist X S (fun _ => rfl) (by decide) d_M_measure_28 (by first | assumption | omega) (by first | assumption | omega) (fun π1 S => ?_)
        have R := S.1
        rw [up2_upr] at S
        refine pg_iinc3 X d_M_measure_29 ?_
        refine pg_goto X d_M_measure_32 ?_
        rw [nI_i1]
        refine ih (i + 1) _ _ (by omega) (fun j hj => ?_) (fun c hc => ?_) S go
        · show upd f (fr + i) x j = _
          unfold upd
          rw [if_neg (by omega)]
          exact ho j hj
        · show upd f (fr + i) x (fr + c) = _
          unfold upd
          by_cases q : c = i
          · rw [if_pos (by omega), hx, q]
          · rw [if_neg (by omega)]
            exact hF c (by omega)
      refine pg_iload_n X d_M_measure_2 rfl ?_
      refine pg_sipush X (144) d_M_measure_3 (by decide) ?_
      refine pg_icmp_ge X d_M_measure_6 (fun c1 => ?_) (fun c1 => ?_)
      · rw [e144] at c1
        simp (disch := omega) only [Int32.lt_iff_toInt_lt, Int32.le_iff_toInt_le, nI_toInt, px_l0, px_l1, px_l2, px_l3, px_l4, px_l5, px_l6, px_l10, px_l11, px_l12, px_l16, px_l30, px_l100, px_l400] at c1
        omega
      refine pg_aload_n X d_M_measure_9 rfl ?_
      refine pg_getf X (f_M_78 hG) d_M_measure_10 (px_rd_of (by first | exact R.o | exact R _ (by decide) | assumption)) rfl ?_
      refine pg_iload_n X d_M_measure_13 rfl ?_
      refine pg_iload_n X d_M_measure_14 rfl ?_
      refine pg_iadd X d_M_measure_15 ?_
      rw [nI_add]
      refine pg_iload_n X d_M_measure_16 rfl ?_
      refine pg_iload_n X d_M_measure_17 rfl ?_
      refine pg_icmp_ne X d_M_measure_18 (fun c2 => ?_) (fun c2 => ?_)
      · refine pg_sipush X (10000) d_M_measure_25 (by decide) ?_
        have hne : i ≠ c0 := fun e => c2 (by rw [e])
        exact st _ (by rw [if_neg hne]; rfl)
      · refine pg_iconst X (0) d_M_measure_21 (by decide) ?_
        refine pg_goto X d_M_measure_22 ?_
        have he : i = c0 := (nI_eq (by omega) (by omega)).mp c2
        exact st _ (by rw [if_pos he]; rfl)
  have done : ∀ (F : Nat → Nat) f π1 x4 x5 x6, IV ht c0 D F → (∀ k, k < 144 → isK wd ht wl k → F k ≤ bst F k + 1) → (∀ j, (j < fr ∨ fr + 144 ≤ j) → f j = μ 21 j) → (∀ c, c < 144 → f (fr + c) = nI (F c)) → SM zm (upr μ 21 f) π0 π1 → px_G Γ G (px_Q Γ G true K) true 0 0 37 [some (.ref zm), some (.int (nI fr)), some (.int (nI c0)), some (.int 0), x4, x5, x6] [] π1 := by
    intro F f π1 x4 x5 x6 V hT ho hF S
    refine pg_iload_n X d_M_measure_37 rfl ?_
    refine pg_if_eq X d_M_measure_38 (fun c1 => ?_) (fun c1 => ?_)
    · exact pg_vret X Y d_M_measure_255 (by decide) (Nat.zero_le _) (Nat.zero_le _) (kk f π1 ho (fun c hc => by rw [hF c hc]; exact (V.fin hw hh hI hT c hc).elim (fun q => Or.inl ⟨_, q.1, q.2.1, rfl, q.2.2⟩) (fun q => Or.inr ⟨by rw [q.1], q.2⟩)) S)
    · exact absurd rfl c1
  have main : ∀ s (F : Nat → Nat) f π1 (m : Int32) x4 x5 x6, smF F 144 < s → IV ht c0 D F → ¬ m = 0 → (∀ j, (j < fr ∨ fr + 144 ≤ j) → f j = μ 21 j) → (∀ c, c < 144 → f (fr + c) = nI (F c)) → SM zm (upr μ 21 f) π0 π1 → px_G Γ G (px_Q Γ G true K) true 0 0 37 [some (.ref zm), some (.int (nI fr)), some (.int (nI c0)), some (.int m), x4, x5, x6] [] π1 := by
    intro s
    induction s with
    | zero =>
      intro F f π1 m x4 x5 x6 hs
      exact absurd hs (Nat.not_lt_zero _)
    | succ s ihs =>
      intro F0 f0 π10 m0 x40 x50 x60 hs V0 hm0 ho0 hF0 S0
      have e144 : (144 : Int32) = nI 144 := rfl
      have e11 : (11 : Int32) = nI 11 := rfl
      have sweep : ∀ r i (F : Nat → Nat) f π1 (m : Int32) x5 x6, i + r = 144 → IV ht c0 D F → (m = 0 → ∀ k, k < i → isK wd ht wl k → F k ≤ bst F k + 1) → (¬ m = 0 → smF F 144 < s) → smF F 144 ≤ s → (∀ j, (j < fr ∨ fr + 144 ≤ j) → f j = μ 21 j) → (∀ c, c < 144 → f (fr + c) = nI (F c)) → SM zm (upr μ 21 f) π0 π1 → px_G Γ G (px_Q Γ G true K) true 0 0 46 [some (.ref zm), some (.int (nI fr)), some (.int (nI c0)), some (.int m), some (.int (nI i)), x5, x6] [] π1 := by
        intro r
        induction r with
        | zero =>
          intro i F f π1 m x5 x6 hi V hT hd hle ho hF S
          have ei : i = 144 := by omega
          subst ei
          refine pg_iload X d_M_measure_46 rfl ?_
          refine pg_sipush X (144) d_M_measure_48 (by decide) ?_
          refine pg_icmp_ge X d_M_measure_51 (fun c1 => ?_) (fun c1 => ?_)
          · refine pg_goto X d_M_measure_252 ?_
            by_cases q : m = 0
            · have hT2 := hT q
              rw [q]
              exact done F f π1 _ _ _ V hT2 ho hF S
            · exact ihs F f π1 m _ _ _ (hd q) V q ho hF S
          · exact absurd (by decide) c1
        | succ r ih =>
          intro i F f π1 m x5 x6 hi V hT hd hle ho hF S
          have hi144 : i < 144 := by omega
          have R := S.1
          have g1 : upr μ 21 f 0 1 = nI wd := by rw [upr_n (by decide)]; exact h1
          have g2 : upr μ 21 f 0 2 = nI ht := by rw [upr_n (by decide)]; exact h2
          have gF : ∀ c, c < 144 → upr μ 21 f 21 (fr + c) = nI (F c) := by rw [upr_s]; exact hF
          have hFi := (V.2 i hi144).1
          have hb10 : bst F i ≤ 10000 := by
            rcases bst_ex (F := F) (k := i) with q | ⟨q, e⟩ | ⟨q, e⟩ | ⟨q, e⟩ | ⟨q, e⟩
            · omega
            · have := (V.2 (i - 12) (by omega)).1; omega
            · have := (V.2 (i + 12) (by omega)).1; omega
            · have := (V.2 (i + 1) (by omega)).1; omega
            · have := (V.2 (i - 1) (by omega)).1; omega
          have hx : isXY wd ht (nI (i % 12)) (nI (i / 12)) ↔ inC wd ht i := by
            refine ⟨fun ⟨a, b, ha, hb, ea, eb⟩ => ?_, fun q => ⟨i % 12, i / 12, q.1, q.2, rfl, rfl⟩⟩
            have ea := (nI_eq (by omega) (by omega)).mp ea
            have eb := (nI_eq (by omega) (by omega)).mp eb
            exact ⟨by omega, by omega⟩
          obtain ⟨er, ed⟩ := nI_d12 i hi144
          -- the next cell
          have next : ∀ (F : Nat → Nat) f π1 (m : Int32) x5 x6, IV ht c0 D F → (m = 0 → ∀ k, k < i + 1 → isK wd ht wl k → F k ≤ bst F k + 1) → (¬ m = 0 → smF F 144 < s) → smF F 144 ≤ s → (∀ j, (j < fr ∨ fr + 144 ≤ j) → f j = μ 21 j) → (∀ c, c < 144 → f (fr + c) = nI (F c)) → SM zm (upr μ 21 f) π0 π1 → px_G Γ G (px_Q Γ G true K) true 0 0 246 [some (.ref zm), some (.int (nI fr)), some (.int (nI c0)), some (.int m), some (.int (nI i)), x5, x6] [] π1 := by
            intro F f π1 m x5 x6 V hT hd hle ho hF S
            refine pg_iinc4 X d_M_measure_246 ?_
            refine pg_goto X d_M_measure_249 ?_
            rw [nI_i1]
            exact ih (i + 1) F f π1 m x5 x6 (by omega) V hT hd hle ho hF S
          have t208 : ∀ b5 x6, ((b5 = 1 ∧ isK wd ht wl i) ∨ (b5 = 0 ∧ ¬ isK wd ht wl i)) → px_G Γ G (px_Q Γ G true K) true 0 0 208 [some (.ref zm), some (.int (nI fr)), some (.int (nI c0)), some (.int m), some (.int (nI i)), some (.int b5), x6] [.int (nI (bst F i))] π1 := by
            intro b5 x6 hb5
            refine pg_istore6 X d_M_measure_208 ?_
            refine pg_iload X d_M_measure_210 rfl ?_
            refine pg_if_eq X d_M_measure_212 (fun c1 => ?_) (fun c1 => ?_)
            · refine next F f π1 m _ _ V (fun q k hk hkk => ?_) hd hle ho hF S
              by_cases e : k = i
              · subst e
                rcases hb5 with ⟨q1, -⟩ | ⟨-, q2⟩
                · rw [q1] at c1
                  exact absurd c1 (by decide)
                · exact absurd hkk q2
              · exact hT q k (by omega) hkk
            have hisK : isK wd ht wl i := by
              rcases hb5 with ⟨-, q2⟩ | ⟨q1, -⟩
              · exact q2
              · exact absurd q1 c1
            refine pg_iload X d_M_measure_215 rfl ?_
            refine pg_iconst X (1) d_M_measure_217 (by decide) ?_
            refine pg_iadd X d_M_measure_218 ?_
            have eb1 : nI (bst F i) + 1 = nI (bst F i + 1) := nI_1 _
            rw [eb1]
            refine pg_aload_n X d_M_measure_219 rfl ?_
            refine pg_getf X (f_M_78 hG) d_M_measure_220 (px_rd_of (by first | exact R.o | exact R _ (by decide) | assumption)) rfl ?_
            refine pg_iload_n X d_M_measure_223 rfl ?_
            refine pg_iload X d_M_measure_224 rfl ?_
            refine pg_iadd X d_M_measure_226 ?_
            rw [nI_add]
            refine pg_ialdN X d_M_measure_227 (px_rd_of (by first | exact R.o | exact R _ (by decide) | assumption)) (by first | assumption | omega) (by first | assumption | omega) ?_
            rw [gF i hi144]
            refine pg_icmp_ge X d_M_measure_228 (fun c2 => ?_) (fun c2 => ?_)
            · simp (disch := omega) only [Int32.lt_iff_toInt_lt, Int32.le_iff_toInt_le, nI_toInt, px_l0, px_l1, px_l2, px_l3, px_l4, px_l5, px_l6, px_l10, px_l11, px_l12, px_l16, px_l30, px_l100, px_l400] at c2
              refine next F f π1 m _ _ V (fun q k hk hkk => ?_) hd hle ho hF S
              by_cases e : k = i
              · rw [e]
                omega
              · exact hT q k (by omega) hkk
            · simp (disch := omega) only [Int32.lt_iff_toInt_lt, Int32.le_iff_toInt_le, nI_toInt, px_l0, px_l1, px_l2, px_l3, px_l4, px_l5, px_l6, px_l10, px_l11, px_l12, px_l16, px_l30, px_l100, px_l400] at c2
              have hlt : bst F i + 1 < F i := by omega
              have hsm := smF_lt hlt 144 hi144
              refine pg_aload_n X d_M_measure_231 rfl ?_
              refine pg_getf X (f_M_78 hG) d_M_measure_232 (px_rd_of (by first | exact R.o | exact R _ (by decide) | assumption)) rfl ?_
              refine pg_iload_n X d_M_measure_235 rfl ?_
              refine pg_iload X d_M_measure_236 rfl ?_
              refine pg_iadd X d_M_measure_238 ?_
              rw [nI_add]
              refine pg_iload X d_M_measure_239 rfl ?_
              refine pg_iconst X (1) d_M_measure_241 (by decide) ?_
              refine pg_iadd X d_M_measure_242 ?_
              rw [eb1]
              refine pm_ist X S (fun _ => rfl) (by decide) d_M_measure_243 (by first | assumption | omega) (by first | assumption | omega) (fun π1 S => ?_)
              have R := S.1
              rw [up2_upr] at S
              refine pg_iconst X (1) d_M_measure_244 (by decide) ?_
              refine pg_istore3 X d_M_measure_245 ?_
              refine next (rlx F i) _ _ 1 _ _ (V.relax hw hh hI hisK hlt) (fun q => absurd q (by decide)) (fun _ => by omega) (by omega) (fun j hj => ?_) (fun c hc => ?_) S
              · show upd f (fr + i) _ j = _
                unfold upd
                rw [if_neg (by omega)]
                exact ho j hj
              · show upd f (fr + i) _ (fr + c) = _
                unfold upd rlx
                by_cases e : c = i
                · rw [if_pos (by omega), if_pos e]
                · rw [if_neg (by omega), if_neg e]
                  exact hF c hc
          have t170 : ∀ b5 x6, ((b5 = 1 ∧ isK wd ht wl i) ∨ (b5 = 0 ∧ ¬ isK wd ht wl i)) → px_G Γ G (px_Q Γ G true K) true 0 0 170 [some (.ref zm), some (.int (nI fr)), some (.int (nI c0)), some (.int m), some (.int (nI i)), some (.int b5), x6] [.int (nI (b2 F i))] π1 := by
            intro b5 x6 hb5
            have hs := bst_le (F := F) (k := i)
            refine pg_istore6 X d_M_measure_170 ?_
            refine pg_iload X d_M_measure_172 rfl ?_
            refine pg_bipush X (12) d_M_measure_174 (by decide) ?_
            refine pg_irem X d_M_measure_176 (by decide) ?_
            rw [er]
            refine pg_if_le X d_M_measure_177 (fun c1 => ?_) (fun c1 => ?_)
            · simp (disch := omega) only [Int32.lt_iff_toInt_lt, Int32.le_iff_toInt_le, nI_toInt, px_l0, px_l1, px_l2, px_l3, px_l4, px_l5, px_l6, px_l10, px_l11, px_l12, px_l16, px_l30, px_l100, px_l400] at c1
              refine pg_iload X d_M_measure_206 rfl ?_
              have eb : bst F i = b2 F i := by unfold bst; rw [if_neg (by omega)]
              rw [← eb]
              exact t208 b5 _ hb5
            · simp (disch := omega) only [Int32.lt_iff_toInt_lt, Int32.le_iff_toInt_le, nI_toInt, px_l0, px_l1, px_l2, px_l3, px_l4, px_l5, px_l6, px_l10, px_l11, px_l12, px_l16, px_l30, px_l100, px_l400] at c1
              refine pg_aload_n X d_M_measure_180 rfl ?_
              refine pg_iload_n X d_M_measure_181 rfl ?_
              refine pg_iload X d_M_measure_182 rfl ?_
              refine pg_iconst X (1) d_M_measure_184 (by decide) ?_
              refine pg_isub X d_M_measure_185 ?_
              refine pc_V (ci := 4) (As := [_, _]) X Y d_M_measure_186 (c_M_122 hG) (i_M_stepAt hG) (v_M_stepAt hG) (fun r h => by rw [hG.2] at h; cases h; rfl) rfl rfl (Nat.le_of_ble_eq_true rfl) (by rw [hR]; exact ⟨by decide, by decide⟩) (by decide) (by decide) (by rw [hR]; first | decide | (dsimp only [px_rm]; omega)) (by rw [hR]; first | decide | (dsimp only [px_rm]; omega)) (px_rd_of (by first | exact R.o | assumption)) (t_M_stL A R hf gF hi144 (by omega) ?_)
              refine pg_iload X d_M_measure_189 rfl ?_
              have f1 := (V.2 (i - 1) (by omega)).1
              have f2 : b2 F i ≤ 10000 := by
                have u1 := V.bul hi144
                have u2 := b1_le (F := F) (k := i)
                have u3 := b2_le (F := F) (k := i)
                omega
              refine pg_icmp_ge X d_M_measure_191 (fun c2 => ?_) (fun c2 => ?_)
              · simp (disch := omega) only [Int32.lt_iff_toInt_lt, Int32.le_iff_toInt_le, nI_toInt, px_l0, px_l1, px_l2, px_l3, px_l4, px_l5, px_l6, px_l10, px_l11, px_l12, px_l16, px_l30, px_l100, px_l400] at c2
                refine pg_iload X d_M_measure_206 rfl ?_
                have eb : bst F i = b2 F i := by unfold bst; rw [if_neg (by omega)]
                rw [← eb]
                exact t208 b5 _ hb5
              · simp (disch := omega) only [Int32.lt_iff_toInt_lt, Int32.le_iff_toInt_le, nI_toInt, px_l0, px_l1, px_l2, px_l3, px_l4, px_l5, px_l6, px_l10, px_l11, px_l12, px_l16, px_l30, px_l100, px_l400] at c2
                refine pg_aload_n X d_M_measure_194 rfl ?_
                refine pg_iload_n X d_M_measure_195 rfl ?_
                refine pg_iload X d_M_measure_196 rfl ?_
                refine pg_iconst X (1) d_M_measure_198 (by decide) ?_
                refine pg_isub X d_M_measure_199 ?_
                refine pc_V (ci := 4) (As := [_, _]) X Y d_M_measure_200 (c_M_122 hG) (i_M_stepAt hG) (v_M_stepAt hG) (fun r h => by rw [hG.2] at h; cases h; rfl) rfl rfl (Nat.le_of_ble_eq_true rfl) (by rw [hR]; exact ⟨by decide, by decide⟩) (by decide) (by decide) (by rw [hR]; first | decide | (dsimp only [px_rm]; omega)) (by rw [hR]; first | decide | (dsimp only [px_rm]; omega)) (px_rd_of (by first | exact R.o | assumption)) (t_M_stL A R hf gF hi144 (by omega) ?_)
                refine pg_goto X d_M_measure_203 ?_
                have eb : bst F i = F (i - 1) := by unfold bst; rw [if_pos (by omega)]
                rw [← eb]
                exact t208 b5 _ hb5
          have t130 : ∀ b5 x6, ((b5 = 1 ∧ isK wd ht wl i) ∨ (b5 = 0 ∧ ¬ isK wd ht wl i)) → px_G Γ G (px_Q Γ G true K) true 0 0 130 [some (.ref zm), some (.int (nI fr)), some (.int (nI c0)), some (.int m), some (.int (nI i)), some (.int b5), x6] [.int (nI (b1 F i))] π1 := by
            intro b5 x6 hb5
            refine pg_istore6 X d_M_measure_130 ?_
            refine pg_iload X d_M_measure_132 rfl ?_
            refine pg_bipush X (12) d_M_measure_134 (by decide) ?_
            refine pg_irem X d_M_measure_136 (by decide) ?_
            refine pg_bipush X (11) d_M_measure_137 (by decide) ?_
            rw [er, e11]
            refine pg_icmp_ge X d_M_measure_139 (fun c1 => ?_) (fun c1 => ?_)
            · simp (disch := omega) only [Int32.lt_iff_toInt_lt, Int32.le_iff_toInt_le, nI_toInt, px_l0, px_l1, px_l2, px_l3, px_l4, px_l5, px_l6, px_l10, px_l11, px_l12, px_l16, px_l30, px_l100, px_l400] at c1
              refine pg_iload X d_M_measure_168 rfl ?_
              have eb : b2 F i = b1 F i := by unfold b2; rw [if_neg (by omega)]
              rw [← eb]
              exact t170 b5 _ hb5
            · simp (disch := omega) only [Int32.lt_iff_toInt_lt, Int32.le_iff_toInt_le, nI_toInt, px_l0, px_l1, px_l2, px_l3, px_l4, px_l5, px_l6, px_l10, px_l11, px_l12, px_l16, px_l30, px_l100, px_l400] at c1
              refine pg_aload_n X d_M_measure_142 rfl ?_
              refine pg_iload_n X d_M_measure_143 rfl ?_
              refine pg_iload X d_M_measure_144 rfl ?_
              refine pg_iconst X (1) d_M_measure_146 (by decide) ?_
              refine pg_iadd X d_M_measure_147 ?_
              refine pc_V (ci := 4) (As := [_, _]) X Y d_M_measure_148 (c_M_122 hG) (i_M_stepAt hG) (v_M_stepAt hG) (fun r h => by rw [hG.2] at h; cases h; rfl) rfl rfl (Nat.le_of_ble_eq_true rfl) (by rw [hR]; exact ⟨by decide, by decide⟩) (by decide) (by decide) (by rw [hR]; first | decide | (dsimp only [px_rm]; omega)) (by rw [hR]; first | decide | (dsimp only [px_rm]; omega)) (px_rd_of (by first | exact R.o | assumption)) (t_M_stR A R hf gF hi144 (by omega) ?_)
              refine pg_iload X d_M_measure_151 rfl ?_
              have f1 := (V.2 (i + 1) (by omega)).1
              have f2 : b1 F i ≤ 10000 := by
                have u1 := V.bul hi144
                have u2 := b1_le (F := F) (k := i)
                omega
              refine pg_icmp_ge X d_M_measure_153 (fun c2 => ?_) (fun c2 => ?_)
              · simp (disch := omega) only [Int32.lt_iff_toInt_lt, Int32.le_iff_toInt_le, nI_toInt, px_l0, px_l1, px_l2, px_l3, px_l4, px_l5, px_l6, px_l10, px_l11, px_l12, px_l16, px_l30, px_l100, px_l400] at c2
                refine pg_iload X d_M_measure_168 rfl ?_
                have eb : b2 F i = b1 F i := by unfold b2; rw [if_neg (by omega)]
                rw [← eb]
                exact t170 b5 _ hb5
              · simp (disch := omega) only [Int32.lt_iff_toInt_lt, Int32.le_iff_toInt_le, nI_toInt, px_l0, px_l1, px_l2, px_l3, px_l4, px_l5, px_l6, px_l10, px_l11, px_l12, px_l16, px_l30, px_l100, px_l400] at c2
                refine pg_aload_n X d_M_measure_156 rfl ?_
                refine pg_iload_n X d_M_measure_157 rfl ?_
                refine pg_iload X d_M_measure_158 rfl ?_
                refine pg_iconst X (1) d_M_measure_160 (by decide) ?_
                refine pg_iadd X d_M_measure_161 ?_
                refine pc_V (ci := 4) (As := [_, _]) X Y d_M_measure_162 (c_M_122 hG) (i_M_stepAt hG) (v_M_stepAt hG) (fun r h => by rw [hG.2] at h; cases h; rfl) rfl rfl (Nat.le_of_ble_eq_true rfl) (by rw [hR]; exact ⟨by decide, by decide⟩) (by decide) (by decide) (by rw [hR]; first | decide | (dsimp only [px_rm]; omega)) (by rw [hR]; first | decide | (dsimp only [px_rm]; omega)) (px_rd_of (by first | exact R.o | assumption)) (t_M_stR A R hf gF hi144 (by omega) ?_)
                refine pg_goto X d_M_measure_165 ?_
                have eb : b2 F i = F (i + 1) := by unfold b2; rw [if_pos (by omega)]
                rw [← eb]
                exact t170 b5 _ hb5
          have t86 : ∀ b5 x5 x6, ((b5 = 1 ∧ isK wd ht wl i) ∨ (b5 = 0 ∧ ¬ isK wd ht wl i)) → px_G Γ G (px_Q Γ G true K) true 0 0 86 [some (.ref zm), some (.int (nI fr)), some (.int (nI c0)), some (.int m), some (.int (nI i)), x5, x6] [.int b5] π1 := by
            intro b5 x5 x6 hb5
            have f1 := V.bul hi144
            have f2 := V.bdl (k := i)
            refine pg_istore5 X d_M_measure_86 ?_
            refine pg_aload_n X d_M_measure_88 rfl ?_
            refine pg_iload_n X d_M_measure_89 rfl ?_
            refine pg_iload X d_M_measure_90 rfl ?_
            refine pg_bipush X (12) d_M_measure_92 (by decide) ?_
            refine pg_isub X d_M_measure_94 ?_
            refine pc_V (ci := 4) (As := [_, _]) X Y d_M_measure_95 (c_M_122 hG) (i_M_stepAt hG) (v_M_stepAt hG) (fun r h => by rw [hG.2] at h; cases h; rfl) rfl rfl (Nat.le_of_ble_eq_true rfl) (by rw [hR]; exact ⟨by decide, by decide⟩) (by decide) (by decide) (by rw [hR]; first | decide | (dsimp only [px_rm]; omega)) (by rw [hR]; first | decide | (dsimp only [px_rm]; omega)) (px_rd_of (by first | exact R.o | assumption)) (t_M_stU A R hf gF hi144 ?_)
            refine pg_istore6 X d_M_measure_98 ?_
            refine pg_aload_n X d_M_measure_100 rfl ?_
            refine pg_iload_n X d_M_measure_101 rfl ?_
            refine pg_iload X d_M_measure_102 rfl ?_
            refine pg_bipush X (12) d_M_measure_104 (by decide) ?_
            refine pg_iadd X d_M_measure_106 ?_
            refine pc_V (ci := 4) (As := [_, _]) X Y d_M_measure_107 (c_M_122 hG) (i_M_stepAt hG) (v_M_stepAt hG) (fun r h => by rw [hG.2] at h; cases h; rfl) rfl rfl (Nat.le_of_ble_eq_true rfl) (by rw [hR]; exact ⟨by decide, by decide⟩) (by decide) (by decide) (by rw [hR]; first | decide | (dsimp only [px_rm]; omega)) (by rw [hR]; first | decide | (dsimp only [px_rm]; omega)) (px_rd_of (by first | exact R.o | assumption)) (t_M_stD A R hf gF hi144 ?_)
            refine pg_iload X d_M_measure_110 rfl ?_
            refine pg_icmp_ge X d_M_measure_112 (fun c1 => ?_) (fun c1 => ?_)
            · simp (disch := omega) only [Int32.lt_iff_toInt_lt, Int32.le_iff_toInt_le, nI_toInt, px_l0, px_l1, px_l2, px_l3, px_l4, px_l5, px_l6, px_l10, px_l11, px_l12, px_l16, px_l30, px_l100, px_l400] at c1
              refine pg_iload X d_M_measure_128 rfl ?_
              have eb : b1 F i = bu F i := by unfold b1; rw [if_neg (by omega)]
              rw [← eb]
              exact t130 b5 _ hb5
            · simp (disch := omega) only [Int32.lt_iff_toInt_lt, Int32.le_iff_toInt_le, nI_toInt, px_l0, px_l1, px_l2, px_l3, px_l4, px_l5, px_l6, px_l10, px_l11, px_l12, px_l16, px_l30, px_l100, px_l400] at c1
              refine pg_aload_n X d_M_measure_115 rfl ?_
              refine pg_iload_n X d_M_measure_116 rfl ?_
              refine pg_iload X d_M_measure_117 rfl ?_
              refine pg_bipush X (12) d_M_measure_119 (by decide) ?_
              refine pg_iadd X d_M_measure_121 ?_
              refine pc_V (ci := 4) (As := [_, _]) X Y d_M_measure_122 (c_M_122 hG) (i_M_stepAt hG) (v_M_stepAt hG) (fun r h => by rw [hG.2] at h; cases h; rfl) rfl rfl (Nat.le_of_ble_eq_true rfl) (by rw [hR]; exact ⟨by decide, by decide⟩) (by decide) (by decide) (by rw [hR]; first | decide | (dsimp only [px_rm]; omega)) (by rw [hR]; first | decide | (dsimp only [px_rm]; omega)) (px_rd_of (by first | exact R.o | assumption)) (t_M_stD A R hf gF hi144 ?_)
              refine pg_goto X d_M_measure_125 ?_
              have eb : b1 F i = bd F i := by unfold b1; rw [if_pos (by omega)]
              rw [← eb]
              exact t130 b5 _ hb5
          refine pg_iload X d_M_measure_46 rfl ?_
          refine pg_sipush X (144) d_M_measure_48 (by decide) ?_
          rw [e144]
          refine pg_icmp_ge X d_M_measure_51 (fun c1 => ?_) (fun c1 => ?_)
          · simp (disch := omega) only [Int32.lt_iff_toInt_lt, Int32.le_iff_toInt_le, nI_toInt, px_l0, px_l1, px_l2, px_l3, px_l4, px_l5, px_l6, px_l10, px_l11, px_l12, px_l16, px_l30, px_l100, px_l400] at c1
            omega
          refine pg_aload_n X d_M_measure_54 rfl ?_
          refine pg_iload X d_M_measure_55 rfl ?_
          refine pg_bipush X (12) d_M_measure_57 (by decide) ?_
          refine pg_irem X d_M_measure_59 (by decide) ?_
          rw [er]
          refine pg_iload X d_M_measure_60 rfl ?_
          refine pg_bipush X (12) d_M_measure_62 (by decide) ?_
          refine pg_idiv X d_M_measure_64 (by decide) ?_
          rw [ed]
          refine pc_V (ci := 4) (As := [_, _]) X Y d_M_measure_65 (c_M_101 hG) (i_M_isCell hG) (v_M_isCell hG) (fun r h => by rw [hG.2] at h; cases h; rfl) rfl rfl (Nat.le_of_ble_eq_true rfl) (by rw [hR]; exact ⟨by decide, by decide⟩) (by decide) (by decide) (by rw [hR]; first | decide | (dsimp only [px_rm]; omega)) (by rw [hR]; first | decide | (dsimp only [px_rm]; omega)) (px_rd_of (by first | exact R.o | assumption)) (t_M_isCell A R g1 g2 hw hh (fun q1 => ?_) (fun q1 => ?_))
          · rw [hx] at q1
            refine pg_if_eq X d_M_measure_68 (fun c2 => ?_) (fun c2 => ?_)
            · exact absurd c2 (by decide)
            refine pg_aload_n X d_M_measure_71 rfl ?_
            refine pg_getf X (f_M_7 hG) d_M_measure_72 (px_rd_of (by first | exact R.o | exact R _ (by decide) | assumption)) rfl ?_
            refine pg_iload X d_M_measure_75 rfl ?_
            refine pg_zaldN X d_M_measure_77 (px_rd_of (by first | exact R.o | exact R _ (by decide) | assumption)) (by first | assumption | omega) (by first | assumption | omega) ?_
            have ew : upr μ 21 f 1 i = wl i := by rw [upr_n (by decide)]; exact hwl i (inC_lt q1)
            rw [ew]
            refine pg_if_ne X d_M_measure_78 (fun c3 => ?_) (fun c3 => ?_)
            · refine pg_iconst X (0) d_M_measure_85 (by decide) ?_
              exact t86 0 _ _ (Or.inr ⟨rfl, fun q => c3 q.2⟩)
            · refine pg_iconst X (1) d_M_measure_81 (by decide) ?_
              refine pg_goto X d_M_measure_82 ?_
              exact t86 1 _ _ (Or.inl ⟨rfl, q1, c3⟩)
          · rw [hx] at q1
            refine pg_if_eq X d_M_measure_68 (fun c2 => ?_) (fun c2 => ?_)
            · refine pg_iconst X (0) d_M_measure_85 (by decide) ?_
              exact t86 0 _ _ (Or.inr ⟨rfl, fun q => q1 q.1⟩)
            · exact absurd rfl c2
      refine pg_iload_n X d_M_measure_37 rfl ?_
      refine pg_if_eq X d_M_measure_38 (fun c1 => ?_) (fun c1 => ?_)
      · exact absurd c1 hm0
      refine pg_iconst X (0) d_M_measure_41 (by decide) ?_
      refine pg_istore3 X d_M_measure_42 ?_
      refine pg_iconst X (0) d_M_measure_43 (by decide) ?_
      refine pg_istore4 X d_M_measure_44 ?_
      exact sweep 144 0 F0 f0 π10 0 _ _ rfl V0 (fun _ k hk => absurd hk (Nat.not_lt_zero k)) (fun q => absurd rfl q) (by omega) ho0 hF0 S0
  refine pg_iconst X (0) d_M_measure_0 (by decide) ?_
  refine pg_istore3 X d_M_measure_1 ?_
  refine fill 144 0 (μ 21) π rfl (fun _ _ => rfl) (fun c hc => absurd hc (Nat.not_lt_zero c)) S (fun f π1 ho hF S => ?_)
  exact main _ _ f π1 1 _ _ _ (Nat.lt_succ_self _) (IV.start hI hc1) (by decide) ho hF S
end MME
