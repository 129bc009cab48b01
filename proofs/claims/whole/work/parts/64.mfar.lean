/-! THE MODEL: far -/
section MFA
variable {l : Launch} {G : px_Cg} {π π0 : px_H} {K : Option Value ⊕ String → px_H → Prop} {zm n nt nd wd ht tl : Nat} {μ h w : Nat → Nat → Int32} {x y g : Int32}
def isQ (nt nd : Nat) (g : Int32) (q : Nat) : Prop := (q < nt ∧ g = nI q) ∨ ∃ d, d < nd ∧ q = 6 + d ∧ g = nI (10 + d)
theorem t_M_far (A : GA G) (S : SM zm μ π0 π) (C : CH h μ wd ht nt nd) (B : HG h wd ht nt nd n)
    (k1 : ∀ a c q, a < wd → c < ht → x = nI a → y = nI c → isQ nt nd g q → ∀ f π1, SM zm (upr (up2 μ 0 0 0) 21 f) π0 π1 → K (.inl (some (.int (h (6 + q) (12 * c + a))))) π1)
    (k0 : ¬ (isXY wd ht x y ∧ ∃ q, isQ nt nd g q) → ∀ π1, SM zm (up2 μ 0 0 1) π0 π1 → K (.inl (some (.int 0))) π1) :
    px_P l G y_M_far b_M_far 5 (some .int) (px_rm 4 92) true [.ref zm, .int x, .int y, .int g] π K := by
  have hG := A.1
  have hZ := A.2.1
  refine px_P.intro (by decide) hZ (by simp [Value.category]) (Nat.le_of_ble_eq_true rfl) rfl ?_
  intro Γ hl hR X Y hnm hs hbel
  subst hl
  refine pg_w ?_
  have R := S.1
  obtain ⟨⟨b0, b1, b2, b3, b4, b5, b6, b7, b8, b9⟩, BD⟩ := id B
  have e9 : (9 : Int32) + nI nd = nI (9 + nd) := nI_add 9 nd
  have e10 : (10 : Int32) = nI 10 := rfl
  have eF : (10000 : Int32) = nI 10000 := rfl
  have bad : ¬ (isXY wd ht x y ∧ ∃ q, isQ nt nd g q) → px_G Γ G (px_Q Γ G true K) true 0 0 44 [some (.ref zm), some (.int x), some (.int y), some (.int g), none] [.ref zm] π := by
    intro q
    refine pg_iconst X (0) d_M_far_44 (by decide) ?_
    refine pg_iconst X (1) d_M_far_45 (by decide) ?_
    refine pg_iconst X (1) d_M_far_46 (by decide) ?_
    refine pc_V (ci := 4) (As := [_, _, _]) X Y d_M_far_47 (c_M_105 hG) (i_M_goes hG) (v_M_goes hG) (fun r h => by rw [hG.2] at h; cases h; rfl) rfl rfl (Nat.le_of_ble_eq_true rfl) (by rw [hR]; exact ⟨by decide, by decide⟩) (by decide) (by decide) (by rw [hR]; first | decide | (dsimp only [px_rm]; omega)) (by rw [hR]; first | decide | (dsimp only [px_rm]; omega)) (px_rd_of (by first | exact R.o | assumption)) (t_M_goes A S (fun q2 => absurd rfl q2.1) (fun q2 π1 S1 => ?_))
    refine pg_if_ne X d_M_far_50 (fun c3 => ?_) (fun c3 => ?_)
    · exact absurd rfl c3
    refine pg_iconst X (0) d_M_far_53 (by decide) ?_
    exact pg_iret X Y d_M_far_54 rfl (by decide) (Nat.zero_le _) (Nat.zero_le _) (k0 q _ S1)
  have good : isXY wd ht x y → (∃ q, isQ nt nd g q) → px_G Γ G (px_Q Γ G true K) true 0 0 40 [some (.ref zm), some (.int x), some (.int y), some (.int g), none] [.ref zm] π := by
    rintro ⟨a, c, ha, hc, ea, eb⟩ ⟨q, hq⟩
    have hG : isG nt nd q := by
      rcases hq with q1 | ⟨d, d1, d2, d3⟩
      · exact Or.inl q1.1
      · exact Or.inr (by omega)
    have hq10 := isG_10 b6 b7 hG
    have egg : g = nI (mg q) := by
      rcases hq with q1 | ⟨d, d1, d2, d3⟩
      · rw [q1.2]
        have : mg q = q := if_pos (by omega)
        rw [this]
      · rw [d3, d2]
        have : mg (6 + d) = 6 + d + 4 := if_neg (by omega)
        rw [this]
        congr 1
        omega
    have k1 := k1 a c q ha hc ea eb hq
    have hG := A.1
    refine pg_iconst X (1) d_M_far_40 (by decide) ?_
    refine pg_goto X d_M_far_41 ?_
    refine pg_iconst X (1) d_M_far_45 (by decide) ?_
    refine pg_iconst X (1) d_M_far_46 (by decide) ?_
    refine pc_V (ci := 4) (As := [_, _, _]) X Y d_M_far_47 (c_M_105 hG) (i_M_goes hG) (v_M_goes hG) (fun r h => by rw [hG.2] at h; cases h; rfl) rfl rfl (Nat.le_of_ble_eq_true rfl) (by rw [hR]; exact ⟨by decide, by decide⟩) (by decide) (by decide) (by rw [hR]; first | decide | (dsimp only [px_rm]; omega)) (by rw [hR]; first | decide | (dsimp only [px_rm]; omega)) (px_rd_of (by first | exact R.o | assumption)) (t_M_goes A S (fun _ π1 S => ?_) (fun q2 => absurd ⟨by decide, by decide, by decide⟩ q2))
    refine pg_if_ne X d_M_far_50 (fun c3 => ?_) (fun c3 => ?_)
    · have R := S.1
      refine pg_aload_n X d_M_far_55 rfl ?_
      refine pc_V (ci := 4) (As := []) X Y d_M_far_56 (c_M_163 hG) (i_M_measureAll hG) (v_M_measureAll hG) (fun r h => by rw [hG.2] at h; cases h; rfl) rfl rfl (Nat.le_of_ble_eq_true rfl) (by rw [hR]; exact ⟨by decide, by decide⟩) (by decide) (by decide) (by rw [hR]; first | decide | (dsimp only [px_rm]; omega)) (by rw [hR]; first | decide | (dsimp only [px_rm]; omega)) (px_rd_of (by first | exact R.o | assumption)) (t_M_measureAll A S B (C.r (FrR.s0 (tl := 0) (Or.inl rfl))) (fun f π2 FF S => ?_))
      have R := S.1
      have k1 := k1 f
      rw [ea, eb, egg]
      refine pg_aload_n X d_M_far_59 rfl ?_
      refine pg_getf X (f_M_78 hG) d_M_far_60 (px_rd_of (by first | exact R.o | exact R _ (by decide) | assumption)) rfl ?_
      refine pg_iload_n X d_M_far_63 rfl ?_
      refine pc_S (As := [_]) X Y d_M_far_64 (c_M_130 hG) (s_M_rowOf hG) rfl rfl (Nat.le_of_ble_eq_true rfl) (by rw [hR]; exact ⟨by decide, by decide⟩) (by decide) (by decide) (by rw [hR]; first | decide | (dsimp only [px_rm]; omega)) (by rw [hR]; first | decide | (dsimp only [px_rm]; omega)) (t_M_rowOf A hq10 ?_)
      refine pg_bipush X (12) d_M_far_67 (by decide) ?_
      refine pg_iload_n X d_M_far_69 rfl ?_
      refine pg_imul X d_M_far_70 ?_
      refine pg_iadd X d_M_far_71 ?_
      refine pg_iload_n X d_M_far_72 rfl ?_
      refine pg_iadd X d_M_far_73 ?_
      have e1 : nI (144 * q) + 12 * nI c + nI a = nI (144 * q + (12 * c + a)) := by
        rw [show (12 : Int32) = nI 12 from rfl, pk_mul, nI_add, nI_add]
        congr 1
        omega
      rw [e1]
      refine pg_ialdN X d_M_far_74 (px_rd_of (by first | exact R.o | exact R _ (by decide) | assumption)) (by first | assumption | omega) (by first | assumption | omega) ?_
      rw [upr_s]
      have hcl : 12 * c + a < 12 * ht := by omega
      refine pg_istore4 X d_M_far_75 ?_
      refine pg_iload X d_M_far_77 rfl ?_
      refine pg_sipush X (10000) d_M_far_79 (by decide) ?_
      rcases fdv_c hcl (FF q (by
        rcases hq with q1 | ⟨d, d1, d2, d3⟩
        · exact Or.inl q1.1
        · exact Or.inr (by omega)) (12 * c + a) (by omega)) with ⟨j, j1, j2, j3, j4⟩ | ⟨j1, j2⟩
      · rw [j2, eF]
        rw [j3] at k1
        refine pg_icmp_lt X d_M_far_82 (fun c4 => ?_) (fun c4 => ?_)
        · refine pg_iload X d_M_far_89 rfl ?_
          exact pg_iret X Y d_M_far_91 rfl (by decide) (Nat.zero_le _) (Nat.zero_le _) (k1 _ S)
        · simp (disch := omega) only [Int32.lt_iff_toInt_lt, Int32.le_iff_toInt_le, nI_toInt, px_l0, px_l1, px_l2, px_l3, px_l4, px_l5, px_l6, px_l10, px_l11, px_l12, px_l16, px_l30, px_l100, px_l400] at c4
          omega
      · rw [j1, eF]
        rw [j2] at k1
        refine pg_icmp_lt X d_M_far_82 (fun c4 => ?_) (fun c4 => ?_)
        · exact absurd c4 (by decide)
        · refine pg_iconst X (-1) d_M_far_85 (by decide) ?_
          refine pg_goto X d_M_far_86 ?_
          exact pg_iret X Y d_M_far_91 rfl (by decide) (Nat.zero_le _) (Nat.zero_le _) (k1 _ S)
    · exact absurd c3 (by decide)
  refine pg_aload_n X d_M_far_0 rfl ?_
  refine pg_aload_n X d_M_far_1 rfl ?_
  refine pg_iload_n X d_M_far_2 rfl ?_
  refine pg_iload_n X d_M_far_3 rfl ?_
  refine pc_V (ci := 4) (As := [_, _]) X Y d_M_far_4 (c_M_101 hG) (i_M_isCell hG) (v_M_isCell hG) (fun r h => by rw [hG.2] at h; cases h; rfl) rfl rfl (Nat.le_of_ble_eq_true rfl) (by rw [hR]; exact ⟨by decide, by decide⟩) (by decide) (by decide) (by rw [hR]; first | decide | (dsimp only [px_rm]; omega)) (by rw [hR]; first | decide | (dsimp only [px_rm]; omega)) (px_rd_of (by first | exact R.o | assumption)) (t_M_isCell A R C.1 C.2.1 b4.2 b5.2 (fun q1 => ?_) (fun q1 => ?_))
  · refine pg_if_eq X d_M_far_7 (fun c1 => ?_) (fun c1 => ?_)
    · exact absurd c1 (by decide)
    refine pg_iload_n X d_M_far_10 rfl ?_
    refine pg_iconst X (0) d_M_far_11 (by decide) ?_
    refine pg_aload_n X d_M_far_12 rfl ?_
    refine pg_getf X (f_M_113 hG) d_M_far_13 (px_rd_of (by first | exact R.o | exact R _ (by decide) | assumption)) rfl ?_
    refine pg_iconst X (1) d_M_far_16 (by decide) ?_
    refine pg_isub X d_M_far_17 ?_
    rw [C.2.2.2.1]
    refine pc_S (As := [_, _, _]) X Y d_M_far_18 (c_M_94 hG) (s_M_within hG) rfl rfl (Nat.le_of_ble_eq_true rfl) (by rw [hR]; exact ⟨by decide, by decide⟩) (by decide) (by decide) (by rw [hR]; first | decide | (dsimp only [px_rm]; omega)) (by rw [hR]; first | decide | (dsimp only [px_rm]; omega)) (t_M_within A (fun q2 => ?_) (fun q2 => ?_))
    · refine pg_if_ne X d_M_far_21 (fun c2 => ?_) (fun c2 => ?_)
      · obtain ⟨t, t1, t2⟩ := (in_rng (by omega)).mp q2
        exact good q1 ⟨t, Or.inl ⟨t1, t2⟩⟩
      · exact absurd c2 (by decide)
    · rw [in_rng (by omega)] at q2
      refine pg_if_ne X d_M_far_21 (fun c2 => ?_) (fun c2 => ?_)
      · exact absurd rfl c2
      refine pg_iload_n X d_M_far_24 rfl ?_
      refine pg_bipush X (10) d_M_far_25 (by decide) ?_
      refine pg_bipush X (9) d_M_far_27 (by decide) ?_
      refine pg_aload_n X d_M_far_29 rfl ?_
      refine pg_getf X (f_M_116 hG) d_M_far_30 (px_rd_of (by first | exact R.o | exact R _ (by decide) | assumption)) rfl ?_
      refine pg_iadd X d_M_far_33 ?_
      rw [C.2.2.2.2.1, e9]
      refine pc_S (As := [_, _, _]) X Y d_M_far_34 (c_M_94 hG) (s_M_within hG) rfl rfl (Nat.le_of_ble_eq_true rfl) (by rw [hR]; exact ⟨by decide, by decide⟩) (by decide) (by decide) (by rw [hR]; first | decide | (dsimp only [px_rm]; omega)) (by rw [hR]; first | decide | (dsimp only [px_rm]; omega)) (t_M_within A (fun q3 => ?_) (fun q3 => ?_))
      · refine pg_if_eq X d_M_far_37 (fun c4 => ?_) (fun c4 => ?_)
        · exact absurd c4 (by decide)
        · have l1 := Int32.le_iff_toInt_le.mp q3.1
          have l2 := Int32.le_iff_toInt_le.mp q3.2
          rw [nI_toInt (by omega)] at l2
          rw [px_l10] at l1
          refine good q1 ⟨6 + (g.toInt.toNat - 10), Or.inr ⟨g.toInt.toNat - 10, by omega, rfl, ?_⟩⟩
          apply Int32.toInt_inj.mp
          rw [nI_toInt (by omega)]
          omega
      · refine pg_if_eq X d_M_far_37 (fun c4 => ?_) (fun c4 => ?_)
        · refine bad (fun q => ?_)
          obtain ⟨-, r, r1 | ⟨d, d1, d2, d3⟩⟩ := q
          · exact q2 ⟨r, r1.1, r1.2⟩
          · refine q3 ?_
            rw [d3]
            exact ⟨nI_le (a := 10) (by omega) (by omega), nI_le (by omega) (by omega)⟩
        · exact absurd rfl c4
  · refine pg_if_eq X d_M_far_7 (fun c1 => ?_) (fun c1 => ?_)
    · exact bad (fun q => q1 q.1)
    · exact absurd rfl c1
end MFA
