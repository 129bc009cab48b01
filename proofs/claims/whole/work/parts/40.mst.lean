/-! THE MODEL: its cells; its small reading methods -/
def mo (zm : Nat) (μ : Nat → Nat → Int32) : List Value := [.int (μ 0 0), .int (μ 0 1), .int (μ 0 2), .int (μ 0 3), .ref (zm + 1), .int (μ 0 4), .ref (zm + 2), .ref (zm + 3), .ref (zm + 4), .ref (zm + 5), .int (μ 0 5), .ref (zm + 6), .int (μ 0 6), .int (μ 0 7), .int (μ 0 8), .ref (zm + 7), .ref (zm + 8), .ref (zm + 9), .int (μ 0 9), .ref (zm + 10), .ref (zm + 11), .ref (zm + 12), .ref (zm + 13), .ref (zm + 14), .ref (zm + 15), .ref (zm + 16), .ref (zm + 17), .ref (zm + 18), .ref (zm + 19), .ref (zm + 20), .ref (zm + 21)]
/-- rows: 0 scalars (thrown, width, height, seed, things, doors, room, patience, visitors, now), 1 walls, 2 thingAt, 3 interests, 4 stays, 5 counts, 6 doorAt, 7 seconds, 8 doorOf, 9 groups, 10 status, 11 cells, 12 goals, 13 looked, 14 seen, 15 kept, 16 stayed, 17 keptStayed, 18 came, 19 went, 20 keptDoors, 21 far -/
def mc (zm : Nat) (μ : Nat → Nat → Int32) : Nat → px_E := fun k => match k with
  | 0 => .inr (4, mo zm μ)
  | 1 => .inl (.boolean, 144, .inl (μ 1))
  | 2 => .inl (.int, 6, .inl (μ 2))
  | 3 => .inl (.int, 6, .inl (μ 3))
  | 4 => .inl (.int, 6, .inl (μ 4))
  | 5 => .inl (.int, 6, .inl (μ 5))
  | 6 => .inl (.int, 4, .inl (μ 6))
  | 7 => .inl (.int, 16, .inl (μ 7))
  | 8 => .inl (.int, 16, .inl (μ 8))
  | 9 => .inl (.int, 16, .inl (μ 9))
  | 10 => .inl (.int, 16, .inl (μ 10))
  | 11 => .inl (.int, 16, .inl (μ 11))
  | 12 => .inl (.int, 16, .inl (μ 12))
  | 13 => .inl (.int, 16, .inl (μ 13))
  | 14 => .inl (.int, 16, .inl (μ 14))
  | 15 => .inl (.int, 80, .inl (μ 15))
  | 16 => .inl (.int, 144, .inl (μ 16))
  | 17 => .inl (.int, 144, .inl (μ 17))
  | 18 => .inl (.int, 4, .inl (μ 18))
  | 19 => .inl (.int, 4, .inl (μ 19))
  | 20 => .inl (.int, 8, .inl (μ 20))
  | 21 => .inl (.int, 1440, .inl (μ 21))
  | _ => .inl (.int, 0, .inl (fun _ => 0))
abbrev RM (zm : Nat) (μ : Nat → Nat → Int32) (π : px_H) : Prop := px_blk zm 22 (mc zm μ) π
def SM (zm : Nat) (μ : Nat → Nat → Int32) (π0 π : px_H) : Prop := RM zm μ π ∧ px_off zm 22 π0 π
section MST
variable {zm : Nat} {μ μ' : Nat → Nat → Int32} {π π0 : px_H}
theorem RM.o (R : RM zm μ π) : π.2 zm = some (.inr (4, mo zm μ)) := R 0 (by decide)
theorem RM.self (R : RM zm μ π) : SM zm μ π π := ⟨R, px_off.rf⟩
theorem mc_row {k : Nat} (h0 : k = 0 → μ' 0 = μ 0) (hk : k ≠ 0 → μ' k = μ k) : mc zm μ' k = mc zm μ k := by
  match k with
  | 0 =>
    have e := h0 rfl
    simp only [mc, mo, e]
  | 1 => simp only [mc, hk (by decide)]
  | 2 => simp only [mc, hk (by decide)]
  | 3 => simp only [mc, hk (by decide)]
  | 4 => simp only [mc, hk (by decide)]
  | 5 => simp only [mc, hk (by decide)]
  | 6 => simp only [mc, hk (by decide)]
  | 7 => simp only [mc, hk (by decide)]
  | 8 => simp only [mc, hk (by decide)]
  | 9 => simp only [mc, hk (by decide)]
  | 10 => simp only [mc, hk (by decide)]
  | 11 => simp only [mc, hk (by decide)]
  | 12 => simp only [mc, hk (by decide)]
  | 13 => simp only [mc, hk (by decide)]
  | 14 => simp only [mc, hk (by decide)]
  | 15 => simp only [mc, hk (by decide)]
  | 16 => simp only [mc, hk (by decide)]
  | 17 => simp only [mc, hk (by decide)]
  | 18 => simp only [mc, hk (by decide)]
  | 19 => simp only [mc, hk (by decide)]
  | 20 => simp only [mc, hk (by decide)]
  | 21 => simp only [mc, hk (by decide)]
  | (k + 22) => rfl
theorem SM.wa (S : SM zm μ π0 π) {k m j : Nat} {ty : FieldType} {x : Int32} (hm : ∀ μ' : Nat → Nat → Int32, mc zm μ' k = .inl (ty, m, .inl (μ' k))) (hk : k < 22) : SM zm (up2 μ k j x) π0 (px_wr π (zm + k) (.inl (ty, m, .inl (upd (μ k) j x)))) := by
  have k0 : k ≠ 0 := by
    intro e
    subst e
    cases hm (fun _ _ => 0)
  refine ⟨px_blk.wr S.1 hk (by rw [hm, up2_u]) (fun i hi hne => mc_row (fun q => up2_r (fun e => k0 e.symm)) (fun q => up2_r hne)), S.2.tr (px_off.wr (by omega) (by omega))⟩
theorem SM.ws (S : SM zm μ π0 π) {j p : Nat} {x : Int32} (hm : ∀ μ' : Nat → Nat → Int32, mo zm (up2 μ' 0 j x) = (mo zm μ').set p (.int x)) : SM zm (up2 μ 0 j x) π0 (px_wr π zm (.inr (4, (mo zm μ).set p (.int x)))) := by
  refine ⟨px_blk.wr (k := 0) S.1 (by decide) ?_ (fun i hi hne => mc_row (fun q => absurd q hne) (fun q => up2_r q)), S.2.tr (px_off.wr (by omega) (by omega))⟩
  show (.inr (4, mo zm (up2 μ 0 j x)) : px_E) = _
  rw [hm]
end MST
section PMR
variable {Γ : px_Cm} {G : px_Cg} {Q : State → Prop} {cc : ByteArray} {own : String} {nc ns pc q zm : Nat} {ls : List (Option Value)} {st : List Value} {π π0 : px_H} {μ : Nat → Nat → Int32}
theorem pm_ist (X : px_X Γ G cc own) (S : SM zm μ π0 π) {k m j : Nat} {x : Int32} (hm : ∀ μ' : Nat → Nat → Int32, mc zm μ' k = .inl (.int, m, .inl (μ' k))) (hk : k < 22) (hd : px_D cc pc .iastore 1 q) (hj : j < m) (hn : m < 2 ^ 31) (kk : ∀ π1, SM zm (up2 μ k j x) π0 π1 → px_G Γ G Q true nc ns q ls st π1) : px_G Γ G Q true nc ns pc ls (.int x :: .int (nI j) :: .ref (zm + k) :: st) π :=
  pg_iastN X hd ((S.1 k hk).trans (by rw [hm])) hj hn (kk _ (S.wa hm hk))
theorem pm_zst (X : px_X Γ G cc own) (S : SM zm μ π0 π) {k m j : Nat} {x : Int32} (hm : ∀ μ' : Nat → Nat → Int32, mc zm μ' k = .inl (.boolean, m, .inl (μ' k))) (hk : k < 22) (hd : px_D cc pc .bastore 1 q) (hj : j < m) (hn : m < 2 ^ 31) (hx : narrow .boolean (.int x) = .int x) (kk : ∀ π1, SM zm (up2 μ k j x) π0 π1 → px_G Γ G Q true nc ns q ls st π1) : px_G Γ G Q true nc ns pc ls (.int x :: .int (nI j) :: .ref (zm + k) :: st) π :=
  pg_zastN X hd ((S.1 k hk).trans (by rw [hm])) hj hn hx (kk _ (S.wa hm hk))
theorem pm_put (X : px_X Γ G cc own) (S : SM zm μ π0 π) {index j p : Nat} {x : Int32} (hF : px_FW G.Ts G.cl own index 4 p) (hT : px_CT G.cl 4 ty_M) (hfin : px_nf G.cl 4 p false) (hn : narrow (ty_M p) (.int x) = .int x) (hm : ∀ μ' : Nat → Nat → Int32, mo zm (up2 μ' 0 j x) = (mo zm μ').set p (.int x)) (hfit : fits (ty_M p) (.int x) = true) (hd : px_D cc pc (.putfield index) 3 q) (kk : ∀ π1, SM zm (up2 μ 0 j x) π0 π1 → px_G Γ G Q true nc ns q ls st π1) : px_G Γ G Q true nc ns pc ls (.int x :: .ref zm :: st) π :=
  pg_putf X hF hT hfin hn hfit hd S.1.o (kk _ (S.ws hm))
end PMR
section MRD
variable {l : Launch} {G : px_Cg} {π π0 : px_H} {K : Option Value ⊕ String → px_H → Prop} {zm tl nt nd wd ht : Nat} {μ : Nat → Nat → Int32}
/-- how many i < n with p -/
noncomputable def cn (p : Nat → Prop) : Nat → Nat
  | 0 => 0
  | n + 1 => cn p n + px_if (p n) 1 0
theorem cn_le {p : Nat → Prop} : ∀ n, cn p n ≤ n
  | 0 => Nat.le_refl 0
  | n + 1 => by
    have := cn_le (p := p) n
    unfold cn px_if
    split <;> omega
theorem t_M_within (A : GA G) {v a b : Int32} (k1 : a ≤ v ∧ v ≤ b → K (.inl (some (.int 1))) π) (k0 : ¬ (a ≤ v ∧ v ≤ b) → K (.inl (some (.int 0))) π) :
    px_P l G y_M_within b_M_within 3 (some .boolean) (px_rm 0 0) false [.int v, .int a, .int b] π K := by
  have hG := A.1
  have hZ := A.2.1
  refine px_P.intro (by decide) hZ (by simp [Value.category]) (Nat.le_of_ble_eq_true rfl) rfl ?_
  intro Γ hl hR X Y hnm hs hbel
  subst hl
  refine pg_iload_n X d_M_within_0 rfl ?_
  refine pg_iload_n X d_M_within_1 rfl ?_
  have bad : ¬ (a ≤ v ∧ v ≤ b) → px_G Γ G (px_Q Γ G false K) false 0 0 14 [some (.int v), some (.int a), some (.int b)] [] π := by
    intro q
    refine pg_iconst X (0) d_M_within_14 (by decide) ?_
    exact pg_iret X Y d_M_within_15 rfl (by decide) (Nat.zero_le _) (Nat.zero_le _) (k0 q)
  refine pg_icmp_lt X d_M_within_2 (fun c1 => ?_) (fun c1 => ?_)
  · exact bad (fun q => k2_nlt q.1 c1)
  refine pg_iload_n X d_M_within_5 rfl ?_
  refine pg_iload_n X d_M_within_6 rfl ?_
  refine pg_icmp_gt X d_M_within_7 (fun c2 => ?_) (fun c2 => ?_)
  · exact bad (fun q => k2_nle c2 q.2)
  refine pg_iconst X (1) d_M_within_10 (by decide) ?_
  refine pg_goto X d_M_within_11 ?_
  exact pg_iret X Y d_M_within_15 rfl (by decide) (Nat.zero_le _) (Nat.zero_le _) (k1 ⟨k2_le c1, k2_le c2⟩)
def thV (a b c : Int32) : Int32 := if a = 0 then 1 else if b = 0 then 2 else if c = 0 then 3 else 0
theorem t_M_goes (A : GA G) (S : SM zm μ π0 π) {a b c : Int32} (k1 : ¬ a = 0 ∧ ¬ b = 0 ∧ ¬ c = 0 → ∀ π1, SM zm (up2 μ 0 0 0) π0 π1 → K (.inl (some (.int 1))) π1) (k0 : ¬ (¬ a = 0 ∧ ¬ b = 0 ∧ ¬ c = 0) → ∀ π1, SM zm (up2 μ 0 0 (thV a b c)) π0 π1 → K (.inl (some (.int 0))) π1) :
    px_P l G y_M_goes b_M_goes 4 (some .boolean) (px_rm 0 0) true [.ref zm, .int a, .int b, .int c] π K := by
  have hG := A.1
  have hZ := A.2.1
  refine px_P.intro (by decide) hZ (by simp [Value.category]) (Nat.le_of_ble_eq_true rfl) rfl ?_
  intro Γ hl hR X Y hnm hs hbel
  subst hl
  refine pg_w ?_
  have R := S.1
  have fin : ∀ x, x = thV a b c → (x = 0 ↔ ¬ a = 0 ∧ ¬ b = 0 ∧ ¬ c = 0) → px_G Γ G (px_Q Γ G true K) true 0 0 26 [some (.ref zm), some (.int a), some (.int b), some (.int c)] [.int x, .ref zm] π := by
    intro x hx hi
    refine pm_put X S (j := 0) (p := 0) (f_M_91 hG) (ct_M hG) (nf_M_thrown hG) rfl (fun _ => rfl) rfl d_M_goes_26 (fun π1 S => ?_)
    have R := S.1
    refine pg_aload_n X d_M_goes_29 rfl ?_
    refine pg_getf X (f_M_91 hG) d_M_goes_30 (px_rd_of (by first | exact R.o | exact R _ (by decide) | assumption)) rfl ?_
    have e : up2 μ 0 0 x 0 0 = x := up2_s
    rw [e]
    refine pg_if_ne X d_M_goes_33 (fun c1 => ?_) (fun c1 => ?_)
    · refine pg_iconst X (0) d_M_goes_40 (by decide) ?_
      have S : SM zm (up2 μ 0 0 (thV a b c)) π0 π1 := by rw [← hx]; exact S
      exact pg_iret X Y d_M_goes_41 rfl (by decide) (Nat.zero_le _) (Nat.zero_le _) (k0 (fun q => c1 (hi.mpr q)) _ S)
    · refine pg_iconst X (1) d_M_goes_36 (by decide) ?_
      refine pg_goto X d_M_goes_37 ?_
      have S : SM zm (up2 μ 0 0 0) π0 π1 := by rw [← c1]; exact S
      exact pg_iret X Y d_M_goes_41 rfl (by decide) (Nat.zero_le _) (Nat.zero_le _) (k1 (hi.mp c1) _ S)
  refine pg_aload_n X d_M_goes_0 rfl ?_
  refine pg_iload_n X d_M_goes_1 rfl ?_
  refine pg_if_ne X d_M_goes_2 (fun c1 => ?_) (fun c1 => ?_)
  · refine pg_iload_n X d_M_goes_9 rfl ?_
    refine pg_if_ne X d_M_goes_10 (fun c2 => ?_) (fun c2 => ?_)
    · refine pg_iload_n X d_M_goes_17 rfl ?_
      refine pg_if_ne X d_M_goes_18 (fun c3 => ?_) (fun c3 => ?_)
      · refine pg_iconst X (0) d_M_goes_25 (by decide) ?_
        exact fin 0 (by unfold thV; rw [if_neg c1, if_neg c2, if_neg c3]) ⟨fun _ => ⟨c1, c2, c3⟩, fun _ => rfl⟩
      · refine pg_iconst X (3) d_M_goes_21 (by decide) ?_
        refine pg_goto X d_M_goes_22 ?_
        exact fin 3 (by unfold thV; rw [if_neg c1, if_neg c2, if_pos c3]) ⟨fun q => absurd q (by decide), fun q => absurd c3 q.2.2⟩
    · refine pg_iconst X (2) d_M_goes_13 (by decide) ?_
      refine pg_goto X d_M_goes_14 ?_
      exact fin 2 (by unfold thV; rw [if_neg c1, if_pos c2]) ⟨fun q => absurd q (by decide), fun q => absurd c2 q.2.1⟩
  · refine pg_iconst X (1) d_M_goes_5 (by decide) ?_
    refine pg_goto X d_M_goes_6 ?_
    exact fin 1 (by unfold thV; rw [if_pos c1]) ⟨fun q => absurd q (by decide), fun q => absurd c1 q.1⟩
theorem t_M_crowdOf (A : GA G) (R : RM zm μ π) (h8 : μ 0 8 = nI tl) (htl : tl ≤ 16) {x : Int32} (k : K (.inl (some (.int (nI (cn (fun v => μ 10 v = 1 ∧ μ 11 v = x) tl))))) π) :
    px_P l G y_M_crowdOf b_M_crowdOf 4 (some .int) (px_rm 0 0) false [.ref zm, .int x] π K := by
  have hG := A.1
  have hZ := A.2.1
  refine px_P.intro (by decide) hZ (by simp [Value.category]) (Nat.le_of_ble_eq_true rfl) rfl ?_
  intro Γ hl hR X Y hnm hs hbel
  subst hl
  have e1 : (1 : Int32) = nI 1 := rfl
  have loop : ∀ r i, i + r = tl → px_G Γ G (px_Q Γ G false K) false 0 0 4 [some (.ref zm), some (.int x), some (.int (nI (cn (fun v => μ 10 v = 1 ∧ μ 11 v = x) i))), some (.int (nI i))] [] π := by
    intro r
    induction r with
    | zero =>
      intro i hi
      have ei : i = tl := by omega
      subst ei
      refine pg_iload_n X d_M_crowdOf_4 rfl ?_
      refine pg_aload_n X d_M_crowdOf_5 rfl ?_
      refine pg_getf X (f_M_98 hG) d_M_crowdOf_6 (px_rd_of (by first | exact R.o | exact R _ (by decide) | assumption)) rfl ?_
      rw [h8]
      refine pg_icmp_ge X d_M_crowdOf_9 (fun c1 => ?_) (fun c1 => ?_)
      · refine pg_iload_n X d_M_crowdOf_46 rfl ?_
        exact pg_iret X Y d_M_crowdOf_47 rfl (by decide) (Nat.zero_le _) (Nat.zero_le _) (k)
      · simp (disch := omega) only [Int32.lt_iff_toInt_lt, Int32.le_iff_toInt_le, nI_toInt, px_l0, px_l1, px_l2, px_l3, px_l4, px_l5, px_l6, px_l10, px_l11, px_l12, px_l16, px_l30, px_l100, px_l400] at c1
        omega
    | succ r ih =>
      intro i hi
      have go : ∀ b, b = nI (cn (fun v => μ 10 v = 1 ∧ μ 11 v = x) (i + 1)) → px_G Γ G (px_Q Γ G false K) false 0 0 39 [some (.ref zm), some (.int x), some (.int (nI (cn (fun v => μ 10 v = 1 ∧ μ 11 v = x) i))), some (.int (nI i))] [.int b] π := by
        intro b hb
        refine pg_istore2 X d_M_crowdOf_39 ?_
        refine pg_iinc3 X d_M_crowdOf_40 ?_
        refine pg_goto X d_M_crowdOf_43 ?_
        rw [nI_i1, hb]
        exact ih (i + 1) (by omega)
      refine pg_iload_n X d_M_crowdOf_4 rfl ?_
      refine pg_aload_n X d_M_crowdOf_5 rfl ?_
      refine pg_getf X (f_M_98 hG) d_M_crowdOf_6 (px_rd_of (by first | exact R.o | exact R _ (by decide) | assumption)) rfl ?_
      rw [h8]
      refine pg_icmp_ge X d_M_crowdOf_9 (fun c1 => ?_) (fun c1 => ?_)
      · simp (disch := omega) only [Int32.lt_iff_toInt_lt, Int32.le_iff_toInt_le, nI_toInt, px_l0, px_l1, px_l2, px_l3, px_l4, px_l5, px_l6, px_l10, px_l11, px_l12, px_l16, px_l30, px_l100, px_l400] at c1
        omega
      refine pg_aload_n X d_M_crowdOf_12 rfl ?_
      refine pg_getf X (f_M_45 hG) d_M_crowdOf_13 (px_rd_of (by first | exact R.o | exact R _ (by decide) | assumption)) rfl ?_
      refine pg_iload_n X d_M_crowdOf_16 rfl ?_
      refine pg_ialdN X d_M_crowdOf_17 (px_rd_of (by first | exact R.o | exact R _ (by decide) | assumption)) (by first | assumption | omega) (by first | assumption | omega) ?_
      refine pg_iconst X (1) d_M_crowdOf_18 (by decide) ?_
      refine pg_icmp_ne X d_M_crowdOf_19 (fun c2 => ?_) (fun c2 => ?_)
      · refine pg_iload_n X d_M_crowdOf_38 rfl ?_
        exact go _ (by rw [cn, px_if, if_neg (fun q => c2 q.1), Nat.add_zero])
      refine pg_aload_n X d_M_crowdOf_22 rfl ?_
      refine pg_getf X (f_M_48 hG) d_M_crowdOf_23 (px_rd_of (by first | exact R.o | exact R _ (by decide) | assumption)) rfl ?_
      refine pg_iload_n X d_M_crowdOf_26 rfl ?_
      refine pg_ialdN X d_M_crowdOf_27 (px_rd_of (by first | exact R.o | exact R _ (by decide) | assumption)) (by first | assumption | omega) (by first | assumption | omega) ?_
      refine pg_iload_n X d_M_crowdOf_28 rfl ?_
      refine pg_icmp_ne X d_M_crowdOf_29 (fun c3 => ?_) (fun c3 => ?_)
      · refine pg_iload_n X d_M_crowdOf_38 rfl ?_
        exact go _ (by rw [cn, px_if, if_neg (fun q => c3 q.2), Nat.add_zero])
      refine pg_iload_n X d_M_crowdOf_32 rfl ?_
      refine pg_iconst X (1) d_M_crowdOf_33 (by decide) ?_
      refine pg_iadd X d_M_crowdOf_34 ?_
      refine pg_goto X d_M_crowdOf_35 ?_
      exact go _ (by rw [cn, px_if, if_pos ⟨c2, c3⟩]; exact nI_1 _)
  refine pg_iconst X (0) d_M_crowdOf_0 (by decide) ?_
  refine pg_istore2 X d_M_crowdOf_1 ?_
  refine pg_iconst X (0) d_M_crowdOf_2 (by decide) ?_
  refine pg_istore3 X d_M_crowdOf_3 ?_
  exact loop tl 0 (by omega)
theorem t_M_inside (A : GA G) (R : RM zm μ π) (h8 : μ 0 8 = nI tl) (htl : tl ≤ 16) (k : K (.inl (some (.int (nI (cn (fun v => μ 10 v = 1) tl))))) π) :
    px_P l G y_M_inside b_M_inside 3 (some .int) (px_rm 0 0) false [.ref zm] π K := by
  have hG := A.1
  have hZ := A.2.1
  refine px_P.intro (by decide) hZ (by simp [Value.category]) (Nat.le_of_ble_eq_true rfl) rfl ?_
  intro Γ hl hR X Y hnm hs hbel
  subst hl
  have loop : ∀ r i, i + r = tl → px_G Γ G (px_Q Γ G false K) false 0 0 4 [some (.ref zm), some (.int (nI (cn (fun v => μ 10 v = 1) i))), some (.int (nI i))] [] π := by
    intro r
    induction r with
    | zero =>
      intro i hi
      have ei : i = tl := by omega
      subst ei
      refine pg_iload_n X d_M_inside_4 rfl ?_
      refine pg_aload_n X d_M_inside_5 rfl ?_
      refine pg_getf X (f_M_98 hG) d_M_inside_6 (px_rd_of (by first | exact R.o | exact R _ (by decide) | assumption)) rfl ?_
      rw [h8]
      refine pg_icmp_ge X d_M_inside_9 (fun c1 => ?_) (fun c1 => ?_)
      · refine pg_iload_n X d_M_inside_36 rfl ?_
        exact pg_iret X Y d_M_inside_37 rfl (by decide) (Nat.zero_le _) (Nat.zero_le _) (k)
      · simp (disch := omega) only [Int32.lt_iff_toInt_lt, Int32.le_iff_toInt_le, nI_toInt, px_l0, px_l1, px_l2, px_l3, px_l4, px_l5, px_l6, px_l10, px_l11, px_l12, px_l16, px_l30, px_l100, px_l400] at c1
        omega
    | succ r ih =>
      intro i hi
      have go : ∀ b, b = nI (cn (fun v => μ 10 v = 1) (i + 1)) → px_G Γ G (px_Q Γ G false K) false 0 0 29 [some (.ref zm), some (.int (nI (cn (fun v => μ 10 v = 1) i))), some (.int (nI i))] [.int b] π := by
        intro b hb
        refine pg_istore1 X d_M_inside_29 ?_
        refine pg_iinc2 X d_M_inside_30 ?_
        refine pg_goto X d_M_inside_33 ?_
        rw [nI_i1, hb]
        exact ih (i + 1) (by omega)
      refine pg_iload_n X d_M_inside_4 rfl ?_
      refine pg_aload_n X d_M_inside_5 rfl ?_
      refine pg_getf X (f_M_98 hG) d_M_inside_6 (px_rd_of (by first | exact R.o | exact R _ (by decide) | assumption)) rfl ?_
      rw [h8]
      refine pg_icmp_ge X d_M_inside_9 (fun c1 => ?_) (fun c1 => ?_)
      · simp (disch := omega) only [Int32.lt_iff_toInt_lt, Int32.le_iff_toInt_le, nI_toInt, px_l0, px_l1, px_l2, px_l3, px_l4, px_l5, px_l6, px_l10, px_l11, px_l12, px_l16, px_l30, px_l100, px_l400] at c1
        omega
      refine pg_aload_n X d_M_inside_12 rfl ?_
      refine pg_getf X (f_M_45 hG) d_M_inside_13 (px_rd_of (by first | exact R.o | exact R _ (by decide) | assumption)) rfl ?_
      refine pg_iload_n X d_M_inside_16 rfl ?_
      refine pg_ialdN X d_M_inside_17 (px_rd_of (by first | exact R.o | exact R _ (by decide) | assumption)) (by first | assumption | omega) (by first | assumption | omega) ?_
      refine pg_iconst X (1) d_M_inside_18 (by decide) ?_
      refine pg_icmp_ne X d_M_inside_19 (fun c2 => ?_) (fun c2 => ?_)
      · refine pg_iload_n X d_M_inside_28 rfl ?_
        exact go _ (by rw [cn, px_if, if_neg c2, Nat.add_zero])
      refine pg_iload_n X d_M_inside_22 rfl ?_
      refine pg_iconst X (1) d_M_inside_23 (by decide) ?_
      refine pg_iadd X d_M_inside_24 ?_
      refine pg_goto X d_M_inside_25 ?_
      exact go _ (by rw [cn, px_if, if_pos c2]; exact nI_1 _)
  refine pg_iconst X (0) d_M_inside_0 (by decide) ?_
  refine pg_istore1 X d_M_inside_1 ?_
  refine pg_iconst X (0) d_M_inside_2 (by decide) ?_
  refine pg_istore2 X d_M_inside_3 ?_
  exact loop tl 0 (by omega)
end MRD
