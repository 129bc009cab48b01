/-! THE MODEL: next -/
section NXT
variable {l : Launch} {G : px_Cg} {π π0 : px_H} {K : Option Value ⊕ String → px_H → Prop} {zm n nt nd wd ht c v tl c0 j : Nat} {μ h w : Nat → Nat → Int32} {D wl : Nat → Int32}
noncomputable def nxN (wd ht : Nat) (D : Nat → Int32) (c j : Nat) : Nat := px_if (12 ≤ c ∧ D (c - 12) = nI j) (c - 12) (px_if (c % 12 + 1 < wd ∧ D (c + 1) = nI j) (c + 1) (px_if (c / 12 + 1 < ht ∧ D (c + 12) = nI j) (c + 12) (c - 1)))
theorem near_1 (hw : wd ≤ 12) (hh : ht ≤ 12) (hI : isD wd ht wl c0 D) (hc : inC wd ht c) (hj : j < 144) (hD : D c = nI (j + 1)) : nearC wd ht D c = nI (nxN wd ht D c j) ∧ inC wd ht (nxN wd ht D c j) ∧ D (nxN wd ht D c j) = nI j := by
  have hn1 : ∀ x, x < 144 → ¬ (-1 : Int32) = nI x := fun x hx e => nI_nm1 (a := x) (by omega) e.symm
  have e1 : D c - 1 = nI j := by rw [hD, nI_m1]
  have hv : nearC wd ht D c = nearA wd ht D c (nI j) 4 0 := by
    unfold nearC
    rw [e1, if_neg (nI_pos (by omega))]
  rw [hv]
  have st : ∀ k s, nearA wd ht D c (nI j) (k + 1) s = if rv D (nbr wd ht c s) = nI j then px_ov (nbr wd ht c s) else nearA wd ht D c (nI j) k (s + 1) := fun _ _ => rfl
  have n0 : nbr wd ht c 0 = if 12 ≤ c then some (c - 12) else none := rfl
  have n1 : nbr wd ht c 1 = if c % 12 + 1 < wd then some (c + 1) else none := rfl
  have n2 : nbr wd ht c 2 = if c / 12 + 1 < ht then some (c + 12) else none := rfl
  have n3 : nbr wd ht c 3 = if 0 < c % 12 then some (c - 1) else none := rfl
  have ob : ∀ t o, nbr wd ht c t = some o → inC wd ht o := fun t o q => nbr_in hw hc q
  obtain ⟨t, o, t1, t2, t3⟩ := hI.2.2.1 c j (inC_lt hc) hj hD
  unfold nxN
  rw [st]
  by_cases q0 : 12 ≤ c ∧ D (c - 12) = nI j
  · rw [px_if_t q0, n0, if_pos q0.1, if_pos (show rv D (some (c - 12)) = nI j from q0.2)]
    exact ⟨rfl, ob 0 _ (by rw [n0, if_pos q0.1]), q0.2⟩
  rw [px_if_f q0, if_neg (by
    intro e
    rw [n0] at e
    by_cases q : 12 ≤ c
    · rw [if_pos q] at e
      exact q0 ⟨q, e⟩
    · rw [if_neg q] at e
      exact hn1 j hj e), st]
  by_cases q1 : c % 12 + 1 < wd ∧ D (c + 1) = nI j
  · rw [px_if_t q1, n1, if_pos q1.1, if_pos (show rv D (some (c + 1)) = nI j from q1.2)]
    exact ⟨rfl, ob 1 _ (by rw [n1, if_pos q1.1]), q1.2⟩
  rw [px_if_f q1, if_neg (by
    intro e
    rw [n1] at e
    by_cases q : c % 12 + 1 < wd
    · rw [if_pos q] at e
      exact q1 ⟨q, e⟩
    · rw [if_neg q] at e
      exact hn1 j hj e), st]
  by_cases q2 : c / 12 + 1 < ht ∧ D (c + 12) = nI j
  · rw [px_if_t q2, n2, if_pos q2.1, if_pos (show rv D (some (c + 12)) = nI j from q2.2)]
    exact ⟨rfl, ob 2 _ (by rw [n2, if_pos q2.1]), q2.2⟩
  rw [px_if_f q2, if_neg (by
    intro e
    rw [n2] at e
    by_cases q : c / 12 + 1 < ht
    · rw [if_pos q] at e
      exact q2 ⟨q, e⟩
    · rw [if_neg q] at e
      exact hn1 j hj e), st]
  have q3 : 0 < c % 12 ∧ D (c - 1) = nI j := by
    obtain rfl | rfl | rfl | rfl : t = 0 ∨ t = 1 ∨ t = 2 ∨ t = 3 := by omega
    · rw [n0] at t2
      by_cases q : 12 ≤ c
      · rw [if_pos q] at t2; cases t2; exact absurd ⟨q, t3⟩ q0
      · rw [if_neg q] at t2; cases t2
    · rw [n1] at t2
      by_cases q : c % 12 + 1 < wd
      · rw [if_pos q] at t2; cases t2; exact absurd ⟨q, t3⟩ q1
      · rw [if_neg q] at t2; cases t2
    · rw [n2] at t2
      by_cases q : c / 12 + 1 < ht
      · rw [if_pos q] at t2; cases t2; exact absurd ⟨q, t3⟩ q2
      · rw [if_neg q] at t2; cases t2
    · rw [n3] at t2
      by_cases q : 0 < c % 12
      · rw [if_pos q] at t2; cases t2; exact ⟨q, t3⟩
      · rw [if_neg q] at t2; cases t2
  rw [n3, if_pos q3.1, if_pos (show rv D (some (c - 1)) = nI j from q3.2)]
  exact ⟨rfl, ob 3 _ (by rw [n3, if_pos q3.1]), q3.2⟩
theorem t_M_next (A : GA G) (R : RM zm μ π) (FF : FM h ht nt nd (μ 21)) {g : Nat} (hg : isG nt nd g) (hnt : nt ≤ 6) (hnd : nd ≤ 4) (hw : wd ≤ 12) (hht : ht ≤ 12) (hI : isD wd ht wl c0 (h (6 + g))) (hv : v < 16) (hc : inC wd ht c) (hcv : μ 11 v = nI c) (hj : j < 144) (hD : h (6 + g) c = nI (j + 1)) (k : K (.inl (some (.int (nearC wd ht (h (6 + g)) c)))) π) :
    px_P l G y_M_next b_M_next 9 (some .int) (px_rm 2 45) false [.ref zm, .int (nI v), .int (nI (mg g))] π K := by
  have hG := A.1
  have hZ := A.2.1
  refine px_P.intro (by decide) hZ (by simp [Value.category]) (Nat.le_of_ble_eq_true rfl) rfl ?_
  intro Γ hl hR X Y hnm hs hbel
  subst hl
  rw [(near_1 hw hht hI hc hj hD).1] at k
  have hg10 := isG_10 hnt hnd hg
  have hc1 := inC_lt hc
  have hc2 := inC_144 hw hht hc
  have e12 : (12 : Int32) = nI 12 := rfl
  have e11 : (11 : Int32) = nI 11 := rfl
  have e132 : (132 : Int32) = nI 132 := rfl
  have fd : ∀ x, x < 144 → (μ 21 (144 * g + x) = nI j ↔ x < 12 * ht ∧ h (6 + g) x = nI j) := by
    intro x hx
    rcases FF g hg x hx with ⟨m, m1, m2, m3, m4⟩ | ⟨m1, m2⟩
    · rw [m3, m4]
      exact ⟨fun q => ⟨m2, q⟩, fun q => q.2⟩
    · rw [m1]
      refine ⟨fun q => ?_, fun q => ?_⟩
      · have := (nI_eq (by omega) (by omega)).mp q
        omega
      · have := m2 q.1
        rw [q.2] at this
        exact absurd this (nI_nm1 (by omega))
  have ic : ∀ x, x < 12 * ht → h (6 + g) x = nI j → inC wd ht x := fun x hx e => by
    obtain ⟨_, _, _, q, _⟩ := hI.2.1 x hx (by rw [e]; exact nI_nm1 (by omega))
    exact q
  have pU : (12 ≤ c ∧ μ 21 (144 * g + (c - 12)) = nI j) ↔ (12 ≤ c ∧ h (6 + g) (c - 12) = nI j) := by
    rw [fd (c - 12) (by omega)]
    exact ⟨fun q => ⟨q.1, q.2.2⟩, fun q => ⟨q.1, by omega, q.2⟩⟩
  have pR : (c % 12 < 11 ∧ μ 21 (144 * g + (c + 1)) = nI j) ↔ (c % 12 + 1 < wd ∧ h (6 + g) (c + 1) = nI j) := by
    refine ⟨fun q => ?_, fun q => ⟨by omega, (fd (c + 1) (by omega)).mpr ⟨by unfold inC at hc; omega, q.2⟩⟩⟩
    have h1 := (fd (c + 1) (by omega)).mp q.2
    have h2 := ic _ h1.1 h1.2
    unfold inC at h2
    exact ⟨by omega, h1.2⟩
  have pD : (c < 132 ∧ μ 21 (144 * g + (c + 12)) = nI j) ↔ (c / 12 + 1 < ht ∧ h (6 + g) (c + 12) = nI j) := by
    refine ⟨fun q => ?_, fun q => ⟨by omega, (fd (c + 12) (by omega)).mpr ⟨by unfold inC at hc; omega, q.2⟩⟩⟩
    have h1 := (fd (c + 12) (by omega)).mp q.2
    exact ⟨by omega, h1.2⟩
  have fin : ∀ b6 b7 b8 : Int32, (b6 = 0 ↔ ¬ (12 ≤ c ∧ h (6 + g) (c - 12) = nI j)) → (b7 = 0 ↔ ¬ (c % 12 + 1 < wd ∧ h (6 + g) (c + 1) = nI j)) → (b8 = 0 ↔ ¬ (c / 12 + 1 < ht ∧ h (6 + g) (c + 12) = nI j)) → px_G Γ G (px_Q Γ G false K) false 0 0 116 [some (.ref zm), some (.int (nI v)), some (.int (nI (mg g))), some (.int (nI c)), some (.int (nI j)), some (.int (nI (144 * g))), some (.int b6), some (.int b7), some (.int b8)] [] π := by
    intro b6 b7 b8 h6 h7 h8
    have hcase := near_1 hw hht hI hc hj hD
    unfold nxN at k hcase
    refine pg_iload X d_M_next_116 rfl ?_
    refine pg_if_eq X d_M_next_118 (fun c6 => ?_) (fun c6 => ?_)
    · rw [px_if_f (h6.mp c6)] at k hcase
      refine pg_iload X d_M_next_128 rfl ?_
      refine pg_if_eq X d_M_next_130 (fun c7 => ?_) (fun c7 => ?_)
      · rw [px_if_f (h7.mp c7)] at k hcase
        refine pg_iload X d_M_next_139 rfl ?_
        refine pg_if_eq X d_M_next_141 (fun c8 => ?_) (fun c8 => ?_)
        · rw [px_if_f (h8.mp c8)] at k hcase
          have hpos : 1 ≤ c := by
            by_cases q : c = 0
            · subst q
              have e := hcase.2.2
              rw [show 0 - 1 = 0 from rfl, hD] at e
              have := (nI_eq (by omega) (by omega)).mp e
              omega
            · omega
          refine pg_iload_n X d_M_next_151 rfl ?_
          refine pg_iconst X (1) d_M_next_152 (by decide) ?_
          refine pg_isub X d_M_next_153 ?_
          have e : nI c - 1 = nI (c - 1) := pk_sub hpos
          rw [e]
          exact pg_iret X Y d_M_next_154 rfl (by decide) (Nat.zero_le _) (Nat.zero_le _) (k)
        · have q := Classical.not_not.mp (fun q => c8 (h8.mpr q))
          rw [px_if_t q] at k
          refine pg_iload_n X d_M_next_144 rfl ?_
          refine pg_bipush X (12) d_M_next_145 (by decide) ?_
          refine pg_iadd X d_M_next_147 ?_
          rw [e12, nI_add]
          refine pg_goto X d_M_next_148 ?_
          exact pg_iret X Y d_M_next_154 rfl (by decide) (Nat.zero_le _) (Nat.zero_le _) (k)
      · have q := Classical.not_not.mp (fun q => c7 (h7.mpr q))
        rw [px_if_t q] at k
        refine pg_iload_n X d_M_next_133 rfl ?_
        refine pg_iconst X (1) d_M_next_134 (by decide) ?_
        refine pg_iadd X d_M_next_135 ?_
        have e : nI c + 1 = nI (c + 1) := nI_1 c
        rw [e]
        refine pg_goto X d_M_next_136 ?_
        exact pg_iret X Y d_M_next_154 rfl (by decide) (Nat.zero_le _) (Nat.zero_le _) (k)
    · have q := Classical.not_not.mp (fun q => c6 (h6.mpr q))
      rw [px_if_t q] at k
      refine pg_iload_n X d_M_next_121 rfl ?_
      refine pg_bipush X (12) d_M_next_122 (by decide) ?_
      refine pg_isub X d_M_next_124 ?_
      rw [e12, pk_sub q.1]
      refine pg_goto X d_M_next_125 ?_
      exact pg_iret X Y d_M_next_154 rfl (by decide) (Nat.zero_le _) (Nat.zero_le _) (k)
  have s3 : ∀ b6 b7 : Int32, (b6 = 0 ↔ ¬ (12 ≤ c ∧ h (6 + g) (c - 12) = nI j)) → (b7 = 0 ↔ ¬ (c % 12 + 1 < wd ∧ h (6 + g) (c + 1) = nI j)) → px_G Γ G (px_Q Γ G false K) false 0 0 85 [some (.ref zm), some (.int (nI v)), some (.int (nI (mg g))), some (.int (nI c)), some (.int (nI j)), some (.int (nI (144 * g))), some (.int b6), some (.int b7), none] [] π := by
    intro b6 b7 h6 h7
    refine pg_iload_n X d_M_next_85 rfl ?_
    refine pg_sipush X (132) d_M_next_86 (by decide) ?_
    rw [e132]
    refine pg_icmp_ge X d_M_next_89 (fun c1 => ?_) (fun c1 => ?_)
    · simp (disch := omega) only [Int32.lt_iff_toInt_lt, Int32.le_iff_toInt_le, nI_toInt, px_l0, px_l1, px_l2, px_l3, px_l4, px_l5, px_l6, px_l10, px_l11, px_l12, px_l16, px_l30, px_l100, px_l400] at c1
      refine pg_iconst X (0) d_M_next_113 (by decide) ?_
      refine pg_istore8 X d_M_next_114 ?_
      exact fin b6 b7 0 h6 h7 ⟨fun _ q => by have := (pD.mpr q).1; omega, fun _ => rfl⟩
    simp (disch := omega) only [Int32.lt_iff_toInt_lt, Int32.le_iff_toInt_le, nI_toInt, px_l0, px_l1, px_l2, px_l3, px_l4, px_l5, px_l6, px_l10, px_l11, px_l12, px_l16, px_l30, px_l100, px_l400] at c1
    refine pg_aload_n X d_M_next_92 rfl ?_
    refine pg_getf X (f_M_78 hG) d_M_next_93 (px_rd_of (by first | exact R.o | exact R _ (by decide) | assumption)) rfl ?_
    refine pg_iload X d_M_next_96 rfl ?_
    refine pg_iload_n X d_M_next_98 rfl ?_
    refine pg_iadd X d_M_next_99 ?_
    rw [nI_add]
    refine pg_bipush X (12) d_M_next_100 (by decide) ?_
    refine pg_iadd X d_M_next_102 ?_
    rw [e12, nI_add, Nat.add_assoc]
    refine pg_ialdN X d_M_next_103 (px_rd_of (by first | exact R.o | exact R _ (by decide) | assumption)) (by first | assumption | omega) (by first | assumption | omega) ?_
    refine pg_iload X d_M_next_104 rfl ?_
    refine pg_icmp_ne X d_M_next_106 (fun c2 => ?_) (fun c2 => ?_)
    · refine pg_iconst X (0) d_M_next_113 (by decide) ?_
      refine pg_istore8 X d_M_next_114 ?_
      exact fin b6 b7 0 h6 h7 ⟨fun _ q => c2 (pD.mpr q).2, fun _ => rfl⟩
    · refine pg_iconst X (1) d_M_next_109 (by decide) ?_
      refine pg_goto X d_M_next_110 ?_
      refine pg_istore8 X d_M_next_114 ?_
      exact fin b6 b7 1 h6 h7 ⟨fun q => absurd q (by decide), fun q => absurd (pD.mp ⟨by omega, c2⟩) q⟩
  have s2 : ∀ b6 : Int32, (b6 = 0 ↔ ¬ (12 ≤ c ∧ h (6 + g) (c - 12) = nI j)) → px_G Γ G (px_Q Γ G false K) false 0 0 53 [some (.ref zm), some (.int (nI v)), some (.int (nI (mg g))), some (.int (nI c)), some (.int (nI j)), some (.int (nI (144 * g))), some (.int b6), none, none] [] π := by
    intro b6 h6
    refine pg_iload_n X d_M_next_53 rfl ?_
    refine pg_bipush X (12) d_M_next_54 (by decide) ?_
    refine pg_irem X d_M_next_56 (by decide) ?_
    refine pg_bipush X (11) d_M_next_57 (by decide) ?_
    rw [(nI_d12 c hc2).1, e11]
    refine pg_icmp_ge X d_M_next_59 (fun c1 => ?_) (fun c1 => ?_)
    · simp (disch := omega) only [Int32.lt_iff_toInt_lt, Int32.le_iff_toInt_le, nI_toInt, px_l0, px_l1, px_l2, px_l3, px_l4, px_l5, px_l6, px_l10, px_l11, px_l12, px_l16, px_l30, px_l100, px_l400] at c1
      refine pg_iconst X (0) d_M_next_82 (by decide) ?_
      refine pg_istore7 X d_M_next_83 ?_
      exact s3 b6 0 h6 ⟨fun _ q => by have := (pR.mpr q).1; omega, fun _ => rfl⟩
    simp (disch := omega) only [Int32.lt_iff_toInt_lt, Int32.le_iff_toInt_le, nI_toInt, px_l0, px_l1, px_l2, px_l3, px_l4, px_l5, px_l6, px_l10, px_l11, px_l12, px_l16, px_l30, px_l100, px_l400] at c1
    refine pg_aload_n X d_M_next_62 rfl ?_
    refine pg_getf X (f_M_78 hG) d_M_next_63 (px_rd_of (by first | exact R.o | exact R _ (by decide) | assumption)) rfl ?_
    refine pg_iload X d_M_next_66 rfl ?_
    refine pg_iload_n X d_M_next_68 rfl ?_
    refine pg_iadd X d_M_next_69 ?_
    rw [nI_add]
    refine pg_iconst X (1) d_M_next_70 (by decide) ?_
    refine pg_iadd X d_M_next_71 ?_
    have e1 : nI (144 * g + c) + 1 = nI (144 * g + (c + 1)) := nI_1 _
    rw [e1]
    refine pg_ialdN X d_M_next_72 (px_rd_of (by first | exact R.o | exact R _ (by decide) | assumption)) (by first | assumption | omega) (by first | assumption | omega) ?_
    refine pg_iload X d_M_next_73 rfl ?_
    refine pg_icmp_ne X d_M_next_75 (fun c2 => ?_) (fun c2 => ?_)
    · refine pg_iconst X (0) d_M_next_82 (by decide) ?_
      refine pg_istore7 X d_M_next_83 ?_
      exact s3 b6 0 h6 ⟨fun _ q => c2 (pR.mpr q).2, fun _ => rfl⟩
    · refine pg_iconst X (1) d_M_next_78 (by decide) ?_
      refine pg_goto X d_M_next_79 ?_
      refine pg_istore7 X d_M_next_83 ?_
      exact s3 b6 1 h6 ⟨fun q => absurd q (by decide), fun q => absurd (pR.mp ⟨by omega, c2⟩) q⟩
  have s1 : px_G Γ G (px_Q Γ G false K) false 0 0 23 [some (.ref zm), some (.int (nI v)), some (.int (nI (mg g))), some (.int (nI c)), some (.int (nI j)), some (.int (nI (144 * g))), none, none, none] [] π := by
    refine pg_iload_n X d_M_next_23 rfl ?_
    refine pg_bipush X (12) d_M_next_24 (by decide) ?_
    rw [e12]
    refine pg_icmp_lt X d_M_next_26 (fun c1 => ?_) (fun c1 => ?_)
    · simp (disch := omega) only [Int32.lt_iff_toInt_lt, Int32.le_iff_toInt_le, nI_toInt, px_l0, px_l1, px_l2, px_l3, px_l4, px_l5, px_l6, px_l10, px_l11, px_l12, px_l16, px_l30, px_l100, px_l400] at c1
      refine pg_iconst X (0) d_M_next_50 (by decide) ?_
      refine pg_istore6 X d_M_next_51 ?_
      exact s2 0 ⟨fun _ q => by have := q.1; omega, fun _ => rfl⟩
    simp (disch := omega) only [Int32.lt_iff_toInt_lt, Int32.le_iff_toInt_le, nI_toInt, px_l0, px_l1, px_l2, px_l3, px_l4, px_l5, px_l6, px_l10, px_l11, px_l12, px_l16, px_l30, px_l100, px_l400] at c1
    have h12 : 12 ≤ c := by omega
    refine pg_aload_n X d_M_next_29 rfl ?_
    refine pg_getf X (f_M_78 hG) d_M_next_30 (px_rd_of (by first | exact R.o | exact R _ (by decide) | assumption)) rfl ?_
    refine pg_iload X d_M_next_33 rfl ?_
    refine pg_iload_n X d_M_next_35 rfl ?_
    refine pg_iadd X d_M_next_36 ?_
    rw [nI_add]
    refine pg_bipush X (12) d_M_next_37 (by decide) ?_
    refine pg_isub X d_M_next_39 ?_
    have e1 : nI (144 * g + c) - 12 = nI (144 * g + (c - 12)) := by
      rw [e12, pk_sub (by omega)]
      congr 1
      omega
    rw [e1]
    refine pg_ialdN X d_M_next_40 (px_rd_of (by first | exact R.o | exact R _ (by decide) | assumption)) (by first | assumption | omega) (by first | assumption | omega) ?_
    refine pg_iload X d_M_next_41 rfl ?_
    refine pg_icmp_ne X d_M_next_43 (fun c2 => ?_) (fun c2 => ?_)
    · refine pg_iconst X (0) d_M_next_50 (by decide) ?_
      refine pg_istore6 X d_M_next_51 ?_
      exact s2 0 ⟨fun _ q => c2 (pU.mpr q).2, fun _ => rfl⟩
    · refine pg_iconst X (1) d_M_next_46 (by decide) ?_
      refine pg_goto X d_M_next_47 ?_
      refine pg_istore6 X d_M_next_51 ?_
      exact s2 1 ⟨fun q => absurd q (by decide), fun q => absurd (pU.mp ⟨h12, c2⟩) q⟩
  have fc : μ 21 (144 * g + c) = nI (j + 1) := by
    rcases fdv_c hc1 (FF g hg c hc2) with ⟨m, m1, m2, m3, m4⟩ | ⟨m1, m2⟩
    · rw [m2, ← m3, hD]
    · rw [hD] at m2
      exact absurd m2 (nI_nm1 (by omega))
  refine pg_aload_n X d_M_next_0 rfl ?_
  refine pg_getf X (f_M_48 hG) d_M_next_1 (px_rd_of (by first | exact R.o | exact R _ (by decide) | assumption)) rfl ?_
  refine pg_iload_n X d_M_next_4 rfl ?_
  refine pg_ialdN X d_M_next_5 (px_rd_of (by first | exact R.o | exact R _ (by decide) | assumption)) (by first | assumption | omega) (by first | assumption | omega) ?_
  rw [hcv]
  refine pg_istore3 X d_M_next_6 ?_
  refine pg_aload_n X d_M_next_7 rfl ?_
  refine pg_iload_n X d_M_next_8 rfl ?_
  refine pg_iload_n X d_M_next_9 rfl ?_
  refine pc_V (ci := 4) (As := [_, _]) X Y d_M_next_10 (c_M_133 hG) (i_M_distance hG) (v_M_distance hG) (fun r h => by rw [hG.2] at h; cases h; rfl) rfl rfl (Nat.le_of_ble_eq_true rfl) (by rw [hR]; exact ⟨by decide, by decide⟩) (by decide) (by decide) (by rw [hR]; first | decide | (dsimp only [px_rm]; omega)) (by rw [hR]; first | decide | (dsimp only [px_rm]; omega)) (px_rd_of (by first | exact R.o | assumption)) (t_M_distance A R hv hg10 hc2 hcv ?_)
  rw [fc]
  refine pg_iconst X (1) d_M_next_13 (by decide) ?_
  refine pg_isub X d_M_next_14 ?_
  rw [nI_m1]
  refine pg_istore4 X d_M_next_15 ?_
  refine pg_iload_n X d_M_next_17 rfl ?_
  refine pc_S (As := [_]) X Y d_M_next_18 (c_M_130 hG) (s_M_rowOf hG) rfl rfl (Nat.le_of_ble_eq_true rfl) (by rw [hR]; exact ⟨by decide, by decide⟩) (by decide) (by decide) (by rw [hR]; first | decide | (dsimp only [px_rm]; omega)) (by rw [hR]; first | decide | (dsimp only [px_rm]; omega)) (t_M_rowOf A hg10 ?_)
  refine pg_istore5 X d_M_next_21 ?_
  exact s1
end NXT
