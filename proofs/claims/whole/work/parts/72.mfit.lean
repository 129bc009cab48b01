/-! THE MODEL: tries, fit -/
def trF (sv : (Nat → Int32) → Int32) (f : Nat → Int32) (t : Nat) (x : Int32) : Prop := ¬ x = f t ∧ sv (upd f t x) < sv f
def fIN (f : Nat → Int32) (nt : Nat) : Prop := ∀ t, t < nt → ∃ m, 1 ≤ m ∧ m ≤ 100 ∧ f t = nI m
/-- counted of things: none or a number -/
def TA (ta : Nat → Int32) : Prop := ∀ t, t < 6 → ta t = -1 ∨ ∃ m, m ≤ 100 ∧ ta t = nI m
def ftK (sv : (Nat → Int32) → Int32) (nt : Nat) : Nat → (Nat → Int32) × Int32 × Int32 → (Nat → Int32) × Int32 × Int32
  | 0, s => s
  | k + 1, s => ftT sv (k % nt) (-10) (ftT sv (k % nt) 10 (ftK sv nt k s))
section MFI
variable {l : Launch} {G : px_Cg} {π π0 : px_H} {K : Option Value ⊕ String → px_H → Prop} {zm n nt nd wd ht tl nw p t : Nat} {μ μ' μ2 h w wt : Nat → Nat → Int32} {ta f : Nat → Int32} {x : Int32}
theorem CH.e (C : CH h μ wd ht nt nd) (E : FrE 0 μ μ') : CH h μ' wd ht nt nd := by
  obtain ⟨c1, c2, c3, c4, c5, c6, c7, c8, c9, c10⟩ := C
  unfold CH
  rw [E.1 1 (by decide), E.1 2 (by decide), E.1 3 (by decide), E.1 4 (by decide), E.1 5 (by decide), E.1 6 (by decide), E.1 7 (by decide), E.2.1 1 (by decide) (by decide) (by decide), E.2.1 2 (by decide) (by decide) (by decide), E.2.1 3 (by decide) (by decide) (by decide), E.2.1 4 (by decide) (by decide) (by decide), E.2.1 6 (by decide) (by decide) (by decide)]
  exact ⟨c1, c2, c3, c4, c5, c6, c7, c8, c9, c10⟩
theorem CH.i3 (C : CH (upr h 3 f) μ wd ht nt nd) : CH (upr h 3 (upd f t x)) (up2 μ 3 t x) wd ht nt nd := by
  obtain ⟨c1, c2, c3, c4, c5, c6, c7, c8, c9, c10⟩ := C
  unfold CH
  rw [up2_r (show (0 : Nat) ≠ 3 by decide), up2_r (show (1 : Nat) ≠ 3 by decide), up2_r (show (2 : Nat) ≠ 3 by decide), up2_r (show (4 : Nat) ≠ 3 by decide), up2_r (show (6 : Nat) ≠ 3 by decide), upr_n (show (0 : Nat) ≠ 3 by decide), upr_n (show (1 : Nat) ≠ 3 by decide), upr_n (show (2 : Nat) ≠ 3 by decide), upr_n (show (4 : Nat) ≠ 3 by decide), upr_s]
  rw [upr_n (show (0 : Nat) ≠ 3 by decide)] at c3 c6 c7
  rw [upr_n (show (1 : Nat) ≠ 3 by decide)] at c8
  rw [upr_n (show (2 : Nat) ≠ 3 by decide), upr_n (show (4 : Nat) ≠ 3 by decide), upr_s] at c9
  rw [upr_n (show (2 : Nat) ≠ 3 by decide)] at c10
  refine ⟨c1, c2, c3, c4, c5, c6, c7, c8, fun u hu => ?_, c10⟩
  obtain ⟨a1, a2, a3⟩ := c9 u hu
  refine ⟨a1, ?_, a3⟩
  by_cases q : u = t
  · rw [q, up2_s]
    unfold upd
    rw [if_pos rfl]
  · rw [up2_n (Or.inr q)]
    unfold upd
    rw [if_neg q]
    exact a2
theorem FrE.i3 : FrE 3 μ (up2 μ 3 t x) := ⟨fun j _ => up2_n (Or.inl (by decide)), fun r _ _ h3 => up2_r h3, fun r v h1 _ _ => up2_n (by omega), fun c _ => up2_n (Or.inl (by decide)), fun d _ => ⟨up2_n (Or.inl (by decide)), up2_n (Or.inl (by decide))⟩⟩
theorem CW.e (W : CW h w μ nd tl) (htl : tl ≤ 16) (E : FrE p μ μ') (hp : p = 0 ∨ p = 3) : CW h w μ' nd tl := by
  refine ⟨by rw [E.1 8 (by decide)]; exact W.1, fun v hv => (W.2 v hv).cong rfl rfl (fun r a b => ?_)⟩
  by_cases q : r ≤ 9
  · rw [E.2.1 r (by omega) q (by omega)]
  · exact E.2.2.1 r v (by omega) b (by omega)
theorem ndS_u {c : Nat} : ∀ d, ndS (upr h 3 f) c d = ndS h c d
  | 0 => rfl
  | d + 1 => by
    simp only [ndS]
    rw [ndS_u d, upr_n (by omega)]
theorem CW.h3 (W : CW h w μ nd tl) : CW (upr h 3 f) w μ nd tl := by
  refine ⟨W.1, fun v hv => ?_⟩
  have V := W.2 v hv
  unfold VR at V ⊢
  rw [ndS_u]
  exact V
theorem HG_upr (B : HG h wd ht nt nd n) : HG (upr h 3 f) wd ht nt nd n := by
  refine ⟨HF_upr B.1, fun g hg => ?_⟩
  have D := B.2 g hg
  unfold HD at D ⊢
  rw [upr_n (show (2 : Nat) ≠ 3 by decide), upr_n (show (1 : Nat) ≠ 3 by decide), upr_n (by omega)]
  exact D
theorem HS_upr (H : HS h nt) (hf : fIN f nt) : HS (upr h 3 f) nt := by
  refine ⟨fun t ht => ?_, ?_⟩
  · rw [upr_s]
    exact hf t ht
  · rw [upr_n (by decide)]
    exact H.2
theorem upd_upd {y : Int32} : upd (upd f t y) t x = upd f t x := by
  funext j
  unfold upd
  by_cases q : j = t <;> simp [q]
theorem fIN.up (hf : fIN f nt) (hx : ∃ m, 1 ≤ m ∧ m ≤ 100 ∧ x = nI m) : fIN (upd f t x) nt := by
  intro u hu
  unfold upd
  by_cases q : u = t
  · rw [if_pos q]
    exact hx
  · rw [if_neg q]
    exact hf u hu
theorem t_M_tries (A : GA G) (S : SM zm μ π0 π) (C : CH (upr h 3 f) μ wd ht nt nd) (B : HG h wd ht nt nd n) (HH : HS h nt) (hf : fIN f nt) (I : INV w wd ht nt nd tl) (W : CW h w μ nd tl) (h9 : μ 0 9 = nI nw) (hnw : w 0 1 = nI nw) (hnw2 : nw ≤ 400) (h5 : ∀ t, t < 6 → μ 5 t = ta t) (ht6 : t < nt) (hx : ∃ m, 1 ≤ m ∧ m ≤ 100 ∧ x = nI m)
    (k1 : trF (fun f => sqV (upr h 3 f) w wt ta wd ht nt nd tl nw) f t x → ∀ μ' π1, CH (upr h 3 (upd f t x)) μ' wd ht nt nd → FrE 3 μ μ' → μ' 0 0 = μ 0 0 → SM zm μ' π0 π1 → K (.inl (some (.int 1))) π1)
    (k0 : ¬ trF (fun f => sqV (upr h 3 f) w wt ta wd ht nt nd tl nw) f t x → ∀ μ' π1, CH (upr h 3 f) μ' wd ht nt nd → FrE 3 μ μ' → μ' 0 0 = μ 0 0 → SM zm μ' π0 π1 → K (.inl (some (.int 0))) π1) :
    px_P l G y_M_tries b_M_tries 6 (some .boolean) (px_rm 7 182) true [.ref zm, .int (nI t), .int x] π K := by
  have hG := A.1
  have hZ := A.2.1
  refine px_P.intro (by decide) hZ (by simp [Value.category]) (Nat.le_of_ble_eq_true rfl) rfl ?_
  intro Γ hl hR X Y hnm hs hbel
  subst hl
  refine pg_w ?_
  have R := S.1
  have hnt := B.1.2.2.2.2.2.2.1
  have htl := I.1.2.1
  have e3 : μ 3 t = f t := by
    have := (C.2.2.2.2.2.2.2.2.1 t ht6).2.1
    rw [upr_s] at this
    exact this
  refine pg_aload_n X d_M_tries_0 rfl ?_
  refine pg_getf X (f_M_17 hG) d_M_tries_1 (px_rd_of (by first | exact R.o | exact R _ (by decide) | assumption)) rfl ?_
  refine pg_iload_n X d_M_tries_4 rfl ?_
  refine pg_ialdN X d_M_tries_5 (px_rd_of (by first | exact R.o | exact R _ (by decide) | assumption)) (by first | assumption | omega) (by first | assumption | omega) ?_
  refine pg_istore3 X d_M_tries_6 ?_
  refine pg_iload_n X d_M_tries_7 rfl ?_
  refine pg_iload_n X d_M_tries_8 rfl ?_
  rw [e3]
  refine pg_icmp_ne X d_M_tries_9 (fun c1 => ?_) (fun c1 => ?_)
  · refine pg_aload_n X d_M_tries_14 rfl ?_
    refine pc_V (ci := 4) (As := []) X Y d_M_tries_15 (c_M_186 hG) (i_M_anew hG) (v_M_anew hG) (fun r h => by rw [hG.2] at h; cases h; rfl) rfl rfl (Nat.le_of_ble_eq_true rfl) (by rw [hR]; exact ⟨by decide, by decide⟩) (by decide) (by decide) (by rw [hR]; first | decide | (dsimp only [px_rm]; omega)) (by rw [hR]; first | decide | (dsimp only [px_rm]; omega)) (px_rd_of (by first | exact R.o | assumption)) (t_M_anew (wt := wt) A S C (HG_upr B) (HS_upr HH hf) I W.h3 h9 hnw hnw2 h5 (fun μ1 π1 z1 E1 S => ?_))
    have R := S.1
    refine pg_istore4 X d_M_tries_18 ?_
    refine pg_aload_n X d_M_tries_20 rfl ?_
    refine pg_getf X (f_M_17 hG) d_M_tries_21 (px_rd_of (by first | exact R.o | exact R _ (by decide) | assumption)) rfl ?_
    refine pg_iload_n X d_M_tries_24 rfl ?_
    refine pg_iload_n X d_M_tries_25 rfl ?_
    refine pm_ist X S (fun _ => rfl) (by decide) d_M_tries_26 (by first | assumption | omega) (by first | assumption | omega) (fun π1 S => ?_)
    have R := S.1
    refine pg_aload_n X d_M_tries_27 rfl ?_
    have E2 : FrE 3 μ (up2 μ1 3 t x) := E1.wk.tr FrE.i3
    have C2 : CH (upr h 3 (upd f t x)) (up2 μ1 3 t x) wd ht nt nd := (C.e E1).i3
    have z2 : up2 μ1 3 t x 0 0 = μ 0 0 := by rw [up2_n (Or.inl (by decide)), z1]
    generalize up2 μ1 3 t x = μ2 at S E2 C2 z2
    refine pc_V (ci := 4) (As := []) X Y d_M_tries_28 (c_M_186 hG) (i_M_anew hG) (v_M_anew hG) (fun r h => by rw [hG.2] at h; cases h; rfl) rfl rfl (Nat.le_of_ble_eq_true rfl) (by rw [hR]; exact ⟨by decide, by decide⟩) (by decide) (by decide) (by rw [hR]; first | decide | (dsimp only [px_rm]; omega)) (by rw [hR]; first | decide | (dsimp only [px_rm]; omega)) (px_rd_of (by first | exact R.o | assumption)) (t_M_anew (wt := wt) A S C2 (HG_upr B) (HS_upr HH (hf.up hx)) I (W.e htl E2 (Or.inr rfl)).h3 (by rw [E2.1 9 (by decide)]; exact h9) hnw hnw2 (by rw [E2.2.1 5 (by decide) (by decide) (by decide)]; exact h5) (fun μ3 π3 z3 E3 S => ?_))
    have R := S.1
    have E4 : FrE 3 μ μ3 := E2.tr E3.wk
    have C4 := C2.e E3
    have z4 : μ3 0 0 = μ 0 0 := by rw [z3, z2]
    refine pg_iload X d_M_tries_31 rfl ?_
    refine pg_icmp_ge X d_M_tries_33 (fun c2 => ?_) (fun c2 => ?_)
    · refine pg_iconst X (0) d_M_tries_40 (by decide) ?_
      refine pg_istore5 X d_M_tries_41 ?_
      refine pg_aload_n X d_M_tries_43 rfl ?_
      refine pg_getf X (f_M_17 hG) d_M_tries_44 (px_rd_of (by first | exact R.o | exact R _ (by decide) | assumption)) rfl ?_
      refine pg_iload_n X d_M_tries_47 rfl ?_
      refine pg_iload X d_M_tries_48 rfl ?_
      refine pg_if_eq X d_M_tries_50 (fun c3 => ?_) (fun c3 => ?_)
      · refine pg_iload_n X d_M_tries_57 rfl ?_
        refine pm_ist X S (fun _ => rfl) (by decide) d_M_tries_58 (by first | assumption | omega) (by first | assumption | omega) (fun π1 S => ?_)
        have R := S.1
        have C5 := C4.i3 (t := t) (x := f t)
        rw [upd_back] at C5
        refine pg_iload X d_M_tries_59 rfl ?_
        exact pg_iret X Y d_M_tries_61 rfl (by decide) (Nat.zero_le _) (Nat.zero_le _) (k0 (fun q => k2_nlt c2 q.2) _ _ C5 (E4.tr FrE.i3) (by rw [up2_n (Or.inl (by decide))]; exact z4) S)
      · exact absurd rfl c3
    · refine pg_iconst X (1) d_M_tries_36 (by decide) ?_
      refine pg_goto X d_M_tries_37 ?_
      refine pg_istore5 X d_M_tries_41 ?_
      refine pg_aload_n X d_M_tries_43 rfl ?_
      refine pg_getf X (f_M_17 hG) d_M_tries_44 (px_rd_of (by first | exact R.o | exact R _ (by decide) | assumption)) rfl ?_
      refine pg_iload_n X d_M_tries_47 rfl ?_
      refine pg_iload X d_M_tries_48 rfl ?_
      refine pg_if_eq X d_M_tries_50 (fun c3 => ?_) (fun c3 => ?_)
      · exact absurd c3 (by decide)
      · refine pg_iload_n X d_M_tries_53 rfl ?_
        refine pg_goto X d_M_tries_54 ?_
        refine pm_ist X S (fun _ => rfl) (by decide) d_M_tries_58 (by first | assumption | omega) (by first | assumption | omega) (fun π1 S => ?_)
        have R := S.1
        have C5 := C4.i3 (t := t) (x := x)
        rw [upd_upd] at C5
        refine pg_iload X d_M_tries_59 rfl ?_
        exact pg_iret X Y d_M_tries_61 rfl (by decide) (Nat.zero_le _) (Nat.zero_le _) (k1 ⟨c1, k2_lt c2⟩ _ _ C5 (E4.tr FrE.i3) (by rw [up2_n (Or.inl (by decide))]; exact z4) S)
  · refine pg_iconst X (0) d_M_tries_12 (by decide) ?_
    exact pg_iret X Y d_M_tries_13 rfl (by decide) (Nat.zero_le _) (Nat.zero_le _) (k0 (fun q => q.1 c1) μ π C FrE.rf rfl S)
theorem ftK_S {sv : (Nat → Int32) → Int32} {s : (Nat → Int32) × Int32 × Int32} {r : Nat} : ∀ t, t ≤ nt → ftK sv nt (r * nt + t) s = ftS sv t (ftK sv nt (r * nt) s)
  | 0, _ => rfl
  | t + 1, ht => by
    show ftT sv ((r * nt + t) % nt) (-10) (ftT sv ((r * nt + t) % nt) 10 (ftK sv nt (r * nt + t) s)) = ftT sv t (-10) (ftT sv t 10 (ftS sv t (ftK sv nt (r * nt) s)))
    have e : (r * nt + t) % nt = t := by
      rw [Nat.add_comm, Nat.add_mul_mod_self_right]
      exact Nat.mod_eq_of_lt (by omega)
    rw [e, ftK_S t (by omega)]
theorem ftK_R {sv : (Nat → Int32) → Int32} {s : (Nat → Int32) × Int32 × Int32} : ∀ r, ftK sv nt (r * nt) s = ftR sv nt r s
  | 0 => by rw [Nat.zero_mul]; rfl
  | r + 1 => by
    have := ftK_S (sv := sv) (s := s) (r := r) nt (Nat.le_refl nt)
    rw [Nat.succ_mul, this, ftK_R r]
    rfl
/-- a state of fitting that is as it should be -/
def FO (sv : (Nat → Int32) → Int32) (nt : Nat) (q : (Nat → Int32) × Int32 × Int32) : Prop := q.2.1 = sv q.1 ∧ fIN q.1 nt
theorem btw_1 : ∀ m, m < 101 → 1 ≤ m → btw (nI m + 10) 1 100 = (if 90 < nI m then 100 else nI m + 10) ∧ btw (nI m + -10) 1 100 = (if nI m < 11 then 1 else nI m - 10) ∧ (1 ≤ (btw (nI m + 10) 1 100).toNatClampNeg ∧ (btw (nI m + 10) 1 100).toNatClampNeg ≤ 100 ∧ btw (nI m + 10) 1 100 = nI (btw (nI m + 10) 1 100).toNatClampNeg) ∧ (1 ≤ (btw (nI m + -10) 1 100).toNatClampNeg ∧ (btw (nI m + -10) 1 100).toNatClampNeg ≤ 100 ∧ btw (nI m + -10) 1 100 = nI (btw (nI m + -10) 1 100).toNatClampNeg) := by decide +kernel
theorem ftT_1 {sv : (Nat → Int32) → Int32} {q : (Nat → Int32) × Int32 × Int32} {ch : Int32} (hq : q.2.1 = sv q.1) (h0 : 0 ≤ sv (upd q.1 t (btw (q.1 t + ch) 1 100))) (hT : trF sv q.1 t (btw (q.1 t + ch) 1 100)) : ftT sv t ch q = (upd q.1 t (btw (q.1 t + ch) 1 100), sv (upd q.1 t (btw (q.1 t + ch) 1 100)), q.2.2 + 1) := by
  have h2 := hT.2
  rw [← hq] at h2
  have hp : 0 < q.2.1 := by
    rw [Int32.lt_iff_toInt_lt] at h2 ⊢
    rw [Int32.le_iff_toInt_le] at h0
    omega
  unfold ftT
  rw [if_pos hp, if_neg hT.1, if_pos h2]
theorem ftT_0 {sv : (Nat → Int32) → Int32} {q : (Nat → Int32) × Int32 × Int32} {ch : Int32} (hq : q.2.1 = sv q.1) (hT : ¬ trF sv q.1 t (btw (q.1 t + ch) 1 100)) : ftT sv t ch q = q := by
  unfold ftT
  by_cases hp : 0 < q.2.1
  · rw [if_pos hp]
    by_cases e : btw (q.1 t + ch) 1 100 = q.1 t
    · rw [if_pos e, if_neg (fun c => Int32.lt_irrefl c)]
    · rw [if_neg e, if_neg (fun c => hT ⟨e, by rw [← hq]; exact c⟩)]
  · rw [if_neg hp]
theorem sq_1 : ∀ m, m < 17 → ∀ a, a < 101 → ((nI m - nI a) * (nI m - nI a)).toNatClampNeg ≤ 10000 ∧ (nI m - nI a) * (nI m - nI a) = nI ((nI m - nI a) * (nI m - nI a)).toNatClampNeg := by decide +kernel
theorem sqS_n (T : TA ta) {dw : Nat → Int32} (hd : ∀ t, t < 6 → ∃ m, m ≤ 16 ∧ dw t = nI m) : ∀ t, t ≤ 6 → ∃ N, N ≤ 10000 * t ∧ sqS ta dw t = nI N
  | 0, _ => ⟨0, by omega, rfl⟩
  | t + 1, ht => by
    obtain ⟨N, n1, n2⟩ := sqS_n T hd t (by omega)
    unfold sqS
    rcases T t (by omega) with q | ⟨a, a1, a2⟩
    · rw [if_pos q]
      exact ⟨N, by omega, n2⟩
    · obtain ⟨m, m1, m2⟩ := hd t (by omega)
      rw [if_neg (by rw [a2]; exact nI_nm1 (by omega)), m2, a2, n2]
      obtain ⟨s1, s2⟩ := sq_1 m (by omega) a (by omega)
      rw [s2, nI_add]
      exact ⟨_, by omega, rfl⟩
theorem sno_le {s : Nat → Int32} : ∀ n, (∀ u, u < n → px_sb (s u) x = 0 ∨ px_sb (s u) x = 1) → ∃ m, m ≤ n ∧ sno s x n = nI m
  | 0, _ => ⟨0, by omega, rfl⟩
  | n + 1, H => by
    obtain ⟨m, m1, m2⟩ := sno_le n (fun u hu => H u (by omega))
    show ∃ k, k ≤ n + 1 ∧ sno s x n + px_sb (s n) x = nI k
    rw [m2]
    rcases H n (by omega) with q | q
    · rw [q]
      exact ⟨m, by omega, Int32.add_zero _⟩
    · rw [q]
      exact ⟨m + 1, by omega, nI_1 m⟩
theorem INV.r4 (I : INV w wd ht nt nd tl) : ∀ t, t < 6 → ∃ m, m ≤ 16 ∧ w 4 t = nI m := by
  intro t ht
  rw [I.2.2.2.2.2 t ht]
  obtain ⟨m, m1, m2⟩ := sno_le (x := nI t) (s := fun u => w (6 + u) 8) tl (fun u hu => by
    obtain ⟨b, b1, b2⟩ := (I.2.1 u hu).2.2.2.1
    show px_sb (w (6 + u) 8) (nI t) = 0 ∨ px_sb (w (6 + u) 8) (nI t) = 1
    rw [b2]
    exact sb_01 b b1 t ht)
  exact ⟨m, Nat.le_trans m1 I.1.2.1, m2⟩
theorem sqV_nn (B : HG h wd ht nt nd n) (HI : hIN h nt) (I : INV w wd ht nt nd tl) (hn : w 0 1 = nI nw) (hnw : nw ≤ 400) (T : TA ta) : 0 ≤ sqV h w wt ta wd ht nt nd tl nw := by
  rw [sqV_rn B HI I hn hnw]
  have I2 := rnW_I (I.cp (wt := wt) |>.bk B.1) B HI nw
  obtain ⟨N, n1, n2⟩ := sqS_n T (dw := rnW h wd ht nt nd tl nw (gbW (cpW w wt tl) tl) 4) I2.r4 nt B.1.2.2.2.2.2.2.1
  have hnt := B.1.2.2.2.2.2.2.1
  rw [n2, Int32.le_iff_toInt_le, nI_toInt (by omega)]
  show (0 : Int) ≤ N
  omega
/-- both models of a trial, class and model -/
theorem FO.st {sv : (Nat → Int32) → Int32} {q : (Nat → Int32) × Int32 × Int32} {ch : Int32} (hq : FO sv nt q) (hnn : ∀ f, fIN f nt → 0 ≤ sv f) (hb : ∃ m, 1 ≤ m ∧ m ≤ 100 ∧ btw (q.1 t + ch) 1 100 = nI m) : FO sv nt (ftT sv t ch q) ∧ (trF sv q.1 t (btw (q.1 t + ch) 1 100) → ftT sv t ch q = (upd q.1 t (btw (q.1 t + ch) 1 100), sv (upd q.1 t (btw (q.1 t + ch) 1 100)), q.2.2 + 1)) ∧ (¬ trF sv q.1 t (btw (q.1 t + ch) 1 100) → ftT sv t ch q = q) := by
  have h1 := fun hT => ftT_1 (t := t) (ch := ch) hq.1 (hnn _ (hq.2.up hb)) hT
  have h0 := ftT_0 (t := t) (ch := ch) hq.1
  refine ⟨?_, h1, h0⟩
  by_cases hT : trF sv q.1 t (btw (q.1 t + ch) 1 100)
  · rw [h1 hT]
    exact ⟨rfl, hq.2.up hb⟩
  · rw [h0 hT]
    exact hq
theorem FO.b {sv : (Nat → Int32) → Int32} {q : (Nat → Int32) × Int32 × Int32} (hq : FO sv nt q) (ht : t < nt) : (btw (q.1 t + 10) 1 100 = (if 90 < q.1 t then 100 else q.1 t + 10) ∧ ∃ m, 1 ≤ m ∧ m ≤ 100 ∧ btw (q.1 t + 10) 1 100 = nI m) ∧ (btw (q.1 t + -10) 1 100 = (if q.1 t < 11 then 1 else q.1 t - 10) ∧ ∃ m, 1 ≤ m ∧ m ≤ 100 ∧ btw (q.1 t + -10) 1 100 = nI m) := by
  obtain ⟨m, m1, m2, m3⟩ := hq.2 t ht
  rw [m3]
  obtain ⟨a, b, c, d⟩ := btw_1 m (by omega) m1
  exact ⟨⟨a, _, c⟩, b, _, d⟩
theorem ftK_O {sv : (Nat → Int32) → Int32} {q : (Nat → Int32) × Int32 × Int32} (hq : FO sv nt q) (hnn : ∀ f, fIN f nt → 0 ≤ sv f) (hnt : 0 < nt) : ∀ k, FO sv nt (ftK sv nt k q)
  | 0 => hq
  | k + 1 => by
    have h1 := ftK_O hq hnn hnt k
    have ht : k % nt < nt := Nat.mod_lt _ hnt
    have h2 := (h1.st hnn (h1.b ht).1.2).1
    exact (h2.st hnn (h2.b ht).2.2).1
theorem t_M_fit (A : GA G) (S : SM zm μ π0 π) (C : CH h μ wd ht nt nd) (B : HG h wd ht nt nd n) (HH : HS h nt) (I : INV w wd ht nt nd tl) (W : CW h w μ nd tl) (h9 : μ 0 9 = nI nw) (hnw : w 0 1 = nI nw) (hnw2 : nw ≤ 400) (h5 : ∀ t, t < 6 → μ 5 t = ta t) (T : TA ta) {sv : (Nat → Int32) → Int32} (hsv : sv = fun f => sqV (upr h 3 f) w wt ta wd ht nt nd tl nw) {x : Int32}
    (k1 : ∀ r, x = nI r → 1 ≤ r → r ≤ 3 → ∀ μ' π1, CH (upr h 3 (ftR sv nt r (h 3, sv (h 3), 0)).1) μ' wd ht nt nd → FrE 3 μ μ' → μ' 0 0 = 0 → SM zm μ' π0 π1 → K (.inl (some (.int (ftR sv nt r (h 3, sv (h 3), 0)).2.2))) π1)
    (k0 : (¬ ∃ r, x = nI r ∧ 1 ≤ r ∧ r ≤ 3) → ∀ π1, SM zm (up2 μ 0 0 1) π0 π1 → K (.inl (some (.int 0))) π1) :
    px_P l G y_M_fit b_M_fit 5 (some .int) (px_rm 8 210) true [.ref zm, .int x] π K := by
  have hG := A.1
  have hZ := A.2.1
  refine px_P.intro (by decide) hZ (by simp [Value.category]) (Nat.le_of_ble_eq_true rfl) rfl ?_
  intro Γ hl hR X Y hnm hs hbel
  subst hl
  refine pg_w ?_
  have R := S.1
  have hnt := B.1.2.2.2.2.2.2.1
  have htl := I.1.2.1
  refine pg_aload_n X d_M_fit_0 rfl ?_
  refine pg_iload_n X d_M_fit_1 rfl ?_
  refine pg_iconst X (1) d_M_fit_2 (by decide) ?_
  refine pg_iconst X (3) d_M_fit_3 (by decide) ?_
  refine pc_S (As := [_, _, _]) X Y d_M_fit_4 (c_M_94 hG) (s_M_within hG) rfl rfl (Nat.le_of_ble_eq_true rfl) (by rw [hR]; exact ⟨by decide, by decide⟩) (by decide) (by decide) (by rw [hR]; first | decide | (dsimp only [px_rm]; omega)) (by rw [hR]; first | decide | (dsimp only [px_rm]; omega)) (t_M_within A (fun q1 => ?_) (fun q1 => ?_))
  · obtain ⟨r, hr1, er⟩ := nI_of2 (x := x) (M := 3) (n := 3) rfl (fun q => k2_nlt q1.1 (Int32.lt_trans q (by decide))) q1.2
    have hr0 : 1 ≤ r := by
      have := q1.1
      rw [er] at this
      simp (disch := omega) only [Int32.lt_iff_toInt_lt, Int32.le_iff_toInt_le, nI_toInt, px_l0, px_l1, px_l2, px_l3, px_l4, px_l5, px_l6, px_l10, px_l11, px_l12, px_l16, px_l30, px_l100, px_l400] at this
      omega
    subst er
    have k1 := k1 r rfl hr0 hr1
    refine pg_iconst X (1) d_M_fit_7 (by decide) ?_
    refine pg_iconst X (1) d_M_fit_8 (by decide) ?_
    refine pc_V (ci := 4) (As := [_, _, _]) X Y d_M_fit_9 (c_M_105 hG) (i_M_goes hG) (v_M_goes hG) (fun r h => by rw [hG.2] at h; cases h; rfl) rfl rfl (Nat.le_of_ble_eq_true rfl) (by rw [hR]; exact ⟨by decide, by decide⟩) (by decide) (by decide) (by rw [hR]; first | decide | (dsimp only [px_rm]; omega)) (by rw [hR]; first | decide | (dsimp only [px_rm]; omega)) (px_rd_of (by first | exact R.o | assumption)) (t_M_goes A S (fun q2 π1 S => ?_) (fun q2 => absurd ⟨by decide, by decide, by decide⟩ q2))
    refine pg_if_ne X d_M_fit_12 (fun c1 => ?_) (fun c1 => ?_)
    · have hnn : ∀ f, fIN f nt → 0 ≤ sv f := fun f hf => by
        rw [hsv]
        exact sqV_nn (HG_upr B) (HS_upr HH hf).1 I hnw hnw2 T
      have q0 : FO sv nt (h 3, sv (h 3), 0) := ⟨rfl, HH.1⟩
      -- one trial
      have tri : ∀ (q : (Nat → Int32) × Int32 × Int32) (ch : Int32) (t : Nat) (μ2 : Nat → Nat → Int32) (π2 : px_H), t < nt → FO sv nt q → CH (upr h 3 q.1) μ2 wd ht nt nd → FrE 3 μ μ2 → μ2 0 0 = 0 → (∃ m, 1 ≤ m ∧ m ≤ 100 ∧ btw (q.1 t + ch) 1 100 = nI m) → ∀ K', (∀ b : Int32, (b = 0 ∧ (ftT sv t ch q).2.2 = q.2.2) ∨ (b = 1 ∧ (ftT sv t ch q).2.2 = q.2.2 + 1) → ∀ μ' π1, FO sv nt (ftT sv t ch q) → CH (upr h 3 (ftT sv t ch q).1) μ' wd ht nt nd → FrE 3 μ μ' → μ' 0 0 = 0 → SM zm μ' π0 π1 → K' (.inl (some (.int b))) π1) → SM zm μ2 π0 π2 → px_P Γ.l G y_M_tries b_M_tries 6 (some .boolean) (px_rm 7 182) true [.ref zm, .int (nI t), .int (btw (q.1 t + ch) 1 100)] π2 K' := by
        intro q ch t μ2 π2 htn hq C2 E2 z2 hb K' kk S
        obtain ⟨o1, o2, o3⟩ := hq.st hnn hb
        refine t_M_tries (wt := wt) (ta := ta) (nw := nw) A S C2 B HH hq.2 I (W.e htl E2 (Or.inr rfl)) (by rw [E2.1 9 (by decide)]; exact h9) hnw hnw2 (by rw [E2.2.1 5 (by decide) (by decide) (by decide)]; exact h5) htn hb (fun hT μ' π1 C3 E3 z3 S3 => ?_) (fun hT μ' π1 C3 E3 z3 S3 => ?_)
        · rw [← hsv] at hT
          have e := o2 hT
          refine kk 1 (Or.inr ⟨rfl, by rw [e]⟩) μ' π1 o1 (by rw [e]; exact C3) (E2.tr E3) (by rw [z3, z2]) S3
        · rw [← hsv] at hT
          have e := o3 hT
          refine kk 0 (Or.inl ⟨rfl, by rw [e]⟩) μ' π1 o1 (by rw [e]; exact C3) (E2.tr E3) (by rw [z3, z2]) S3
      have hrn : r * nt ≤ 18 := by
        have : r * nt ≤ 3 * 6 := Nat.mul_le_mul hr1 hnt
        omega
      have loop : ∀ m i (x4 : Option Value) μ2 π2, i + m = r * nt → CH (upr h 3 (ftK sv nt i (h 3, sv (h 3), 0)).1) μ2 wd ht nt nd → FrE 3 μ μ2 → μ2 0 0 = 0 → SM zm μ2 π0 π2 → px_G Γ G (px_Q Γ G true K) true 0 0 21 [some (.ref zm), some (.int (nI r)), some (.int (ftK sv nt i (h 3, sv (h 3), 0)).2.2), some (.int (nI i)), x4] [] π2 := by
        intro m
        induction m with
        | zero =>
          intro i x4 μ2 π2 hi C2 E2 z2 S
          have R := S.1
          have ei : i = r * nt := by omega
          subst ei
          rw [ftK_R] at C2 ⊢
          refine pg_iload_n X d_M_fit_21 rfl ?_
          refine pg_iload_n X d_M_fit_22 rfl ?_
          refine pg_aload_n X d_M_fit_23 rfl ?_
          refine pg_getf X (f_M_113 hG) d_M_fit_24 (px_rd_of (by first | exact R.o | exact R _ (by decide) | assumption)) rfl ?_
          refine pg_imul X d_M_fit_27 ?_
          rw [C2.2.2.2.1, pk_mul]
          refine pg_icmp_ge X d_M_fit_28 (fun c2 => ?_) (fun c2 => ?_)
          · refine pg_iload_n X d_M_fit_132 rfl ?_
            exact pg_iret X Y d_M_fit_133 rfl (by decide) (Nat.zero_le _) (Nat.zero_le _) (k1 μ2 π2 C2 E2 z2 S)
          · simp (disch := omega) only [Int32.lt_iff_toInt_lt, Int32.le_iff_toInt_le, nI_toInt, px_l0, px_l1, px_l2, px_l3, px_l4, px_l5, px_l6, px_l10, px_l11, px_l12, px_l16, px_l30, px_l100, px_l400] at c2
            omega
        | succ m ih =>
          intro i x4 μ2 π2 hi C2 E2 z2 S
          have R := S.1
          have hn0 : 0 < nt := by
            rcases Nat.eq_zero_or_pos nt with q | q
            · rw [q, Nat.mul_zero] at hi
              omega
            · exact q
          have htn : i % nt < nt := Nat.mod_lt _ hn0
          have hq := ftK_O q0 hnn hn0 i
          have ih := ih (i + 1)
          have eK : ftK sv nt (i + 1) (h 3, sv (h 3), 0) = ftT sv (i % nt) (-10) (ftT sv (i % nt) 10 (ftK sv nt i (h 3, sv (h 3), 0))) := rfl
          rw [eK] at ih
          have rem := irm_n (a := i) (d := nt) (by omega) hn0 (by omega)
          unfold irm at rem
          have e4 := C2.2.2.2.1
          generalize ftK sv nt i (h 3, sv (h 3), 0) = q at hq ih C2 ⊢
          generalize i % nt = t at htn ih rem
          have e3 : μ2 3 t = q.1 t := by
            have := (C2.2.2.2.2.2.2.2.2.1 t htn).2.1
            rw [upr_s] at this
            exact this
          have ht6 : t < 6 := by omega
          refine pg_iload_n X d_M_fit_21 rfl ?_
          refine pg_iload_n X d_M_fit_22 rfl ?_
          refine pg_aload_n X d_M_fit_23 rfl ?_
          refine pg_getf X (f_M_113 hG) d_M_fit_24 (px_rd_of (by first | exact R.o | exact R _ (by decide) | assumption)) rfl ?_
          refine pg_imul X d_M_fit_27 ?_
          rw [e4, pk_mul]
          refine pg_icmp_ge X d_M_fit_28 (fun c2 => ?_) (fun c2 => ?_)
          · simp (disch := omega) only [Int32.lt_iff_toInt_lt, Int32.le_iff_toInt_le, nI_toInt, px_l0, px_l1, px_l2, px_l3, px_l4, px_l5, px_l6, px_l10, px_l11, px_l12, px_l16, px_l30, px_l100, px_l400] at c2
            omega
          refine pg_iload_n X d_M_fit_31 rfl ?_
          refine pg_aload_n X d_M_fit_32 rfl ?_
          refine pg_getf X (f_M_113 hG) d_M_fit_33 (px_rd_of (by first | exact R.o | exact R _ (by decide) | assumption)) rfl ?_
          rw [e4]
          refine pg_irem X d_M_fit_36 (nI_ne0 hn0 (by omega)) ?_
          rw [rem]
          refine pg_istore4 X d_M_fit_37 ?_
          refine pg_aload_n X d_M_fit_39 rfl ?_
          refine pg_iload X d_M_fit_40 rfl ?_
          refine pg_aload_n X d_M_fit_42 rfl ?_
          refine pg_getf X (f_M_17 hG) d_M_fit_43 (px_rd_of (by first | exact R.o | exact R _ (by decide) | assumption)) rfl ?_
          refine pg_iload X d_M_fit_46 rfl ?_
          refine pg_ialdN X d_M_fit_48 (px_rd_of (by first | exact R.o | exact R _ (by decide) | assumption)) (by first | assumption | omega) (by first | assumption | omega) ?_
          refine pg_bipush X (90) d_M_fit_49 (by decide) ?_
          rw [e3]
          obtain ⟨⟨bb1, bb2⟩, -⟩ := hq.b htn
          -- the second trial
          have second : ∀ q2 μ3 π3, FO sv nt q2 → CH (upr h 3 q2.1) μ3 wd ht nt nd → FrE 3 μ μ3 → μ3 0 0 = 0 → SM zm μ3 π0 π3 → (∀ x4 μ2 π2, CH (upr h 3 (ftT sv t (-10) q2).1) μ2 wd ht nt nd → FrE 3 μ μ2 → μ2 0 0 = 0 → SM zm μ2 π0 π2 → px_G Γ G (px_Q Γ G true K) true 0 0 21 [some (.ref zm), some (.int (nI r)), some (.int (ftT sv t (-10) q2).2.2), some (.int (nI (i + 1))), x4] [] π2) → px_G Γ G (px_Q Γ G true K) true 0 0 83 [some (.ref zm), some (.int (nI r)), some (.int q2.2.2), some (.int (nI i)), some (.int (nI t))] [] π3 := by
            intro q2 μ3 π3 hq2 C3 E3 z3 S kk
            have R := S.1
            have e3 : μ3 3 t = q2.1 t := by
              have := (C3.2.2.2.2.2.2.2.2.1 t htn).2.1
              rw [upr_s] at this
              exact this
            obtain ⟨-, bb1, bb2⟩ := hq2.b htn
            have aft : px_G Γ G (px_Q Γ G true K) true 0 0 112 [some (.ref zm), some (.int (nI r)), some (.int q2.2.2), some (.int (nI i)), some (.int (nI t))] [.int (btw (q2.1 t + -10) 1 100), .int (nI t), .ref zm] π3 := by
              refine pc_V (ci := 4) (As := [_, _]) X Y d_M_fit_112 (c_M_189 hG) (i_M_tries hG) (v_M_tries hG) (fun r h => by rw [hG.2] at h; cases h; rfl) rfl rfl (Nat.le_of_ble_eq_true rfl) (by rw [hR]; exact ⟨by decide, by decide⟩) (by decide) (by decide) (by rw [hR]; first | decide | (dsimp only [px_rm]; omega)) (by rw [hR]; first | decide | (dsimp only [px_rm]; omega)) (px_rd_of (by first | exact R.o | assumption)) (tri q2 (-10) t μ3 π3 htn hq2 C3 E3 z3 bb2 _ (fun b hb μ4 π4 o4 C4 E4 z4 S => ?_) S)
              rcases hb with ⟨hb, hc⟩ | ⟨hb, hc⟩
              · subst hb
                have kk := kk (some (.int (nI t))) μ4 π4 C4 E4 z4 S
                rw [hc] at kk
                refine pg_if_eq X d_M_fit_115 (fun c3 => ?_) (fun c3 => ?_)
                · refine pg_iload_n X d_M_fit_124 rfl ?_
                  refine pg_istore2 X d_M_fit_125 ?_
                  refine pg_iinc3 X d_M_fit_126 ?_
                  refine pg_goto X d_M_fit_129 ?_
                  rw [nI_i1]
                  exact kk
                · exact absurd rfl c3
              · subst hb
                have kk := kk (some (.int (nI t))) μ4 π4 C4 E4 z4 S
                rw [hc] at kk
                refine pg_if_eq X d_M_fit_115 (fun c3 => ?_) (fun c3 => ?_)
                · exact absurd c3 (by decide)
                · refine pg_iload_n X d_M_fit_118 rfl ?_
                  refine pg_iconst X (1) d_M_fit_119 (by decide) ?_
                  refine pg_iadd X d_M_fit_120 ?_
                  refine pg_goto X d_M_fit_121 ?_
                  refine pg_istore2 X d_M_fit_125 ?_
                  refine pg_iinc3 X d_M_fit_126 ?_
                  refine pg_goto X d_M_fit_129 ?_
                  rw [nI_i1]
                  exact kk
            refine pg_aload_n X d_M_fit_83 rfl ?_
            refine pg_iload X d_M_fit_84 rfl ?_
            refine pg_aload_n X d_M_fit_86 rfl ?_
            refine pg_getf X (f_M_17 hG) d_M_fit_87 (px_rd_of (by first | exact R.o | exact R _ (by decide) | assumption)) rfl ?_
            refine pg_iload X d_M_fit_90 rfl ?_
            refine pg_ialdN X d_M_fit_92 (px_rd_of (by first | exact R.o | exact R _ (by decide) | assumption)) (by first | assumption | omega) (by first | assumption | omega) ?_
            refine pg_bipush X (11) d_M_fit_93 (by decide) ?_
            rw [e3]
            refine pg_icmp_ge X d_M_fit_95 (fun c3 => ?_) (fun c3 => ?_)
            · refine pg_aload_n X d_M_fit_102 rfl ?_
              refine pg_getf X (f_M_17 hG) d_M_fit_103 (px_rd_of (by first | exact R.o | exact R _ (by decide) | assumption)) rfl ?_
              refine pg_iload X d_M_fit_106 rfl ?_
              refine pg_ialdN X d_M_fit_108 (px_rd_of (by first | exact R.o | exact R _ (by decide) | assumption)) (by first | assumption | omega) (by first | assumption | omega) ?_
              refine pg_bipush X (10) d_M_fit_109 (by decide) ?_
              refine pg_isub X d_M_fit_111 ?_
              rw [e3]
              rw [if_neg (k2_nlt c3)] at bb1
              rw [bb1] at aft
              exact aft
            · refine pg_iconst X (1) d_M_fit_98 (by decide) ?_
              refine pg_goto X d_M_fit_99 ?_
              rw [if_pos (k2_lt c3)] at bb1
              rw [bb1] at aft
              exact aft
          have aft : px_G Γ G (px_Q Γ G true K) true 0 0 69 [some (.ref zm), some (.int (nI r)), some (.int q.2.2), some (.int (nI i)), some (.int (nI t))] [.int (btw (q.1 t + 10) 1 100), .int (nI t), .ref zm] π2 := by
            refine pc_V (ci := 4) (As := [_, _]) X Y d_M_fit_69 (c_M_189 hG) (i_M_tries hG) (v_M_tries hG) (fun r h => by rw [hG.2] at h; cases h; rfl) rfl rfl (Nat.le_of_ble_eq_true rfl) (by rw [hR]; exact ⟨by decide, by decide⟩) (by decide) (by decide) (by rw [hR]; first | decide | (dsimp only [px_rm]; omega)) (by rw [hR]; first | decide | (dsimp only [px_rm]; omega)) (px_rd_of (by first | exact R.o | assumption)) (tri q 10 t μ2 π2 htn hq C2 E2 z2 bb2 _ (fun b hb μ4 π4 o4 C4 E4 z4 S => ?_) S)
            have sec := second _ μ4 π4 o4 C4 E4 z4 S (fun x4 μ5 π5 C5 E5 z5 S5 => ih x4 μ5 π5 (by omega) C5 E5 z5 S5)
            rcases hb with ⟨hb, hc⟩ | ⟨hb, hc⟩
            · subst hb
              rw [hc] at sec
              refine pg_if_eq X d_M_fit_72 (fun c3 => ?_) (fun c3 => ?_)
              · refine pg_iload_n X d_M_fit_81 rfl ?_
                refine pg_istore2 X d_M_fit_82 ?_
                exact sec
              · exact absurd rfl c3
            · subst hb
              rw [hc] at sec
              refine pg_if_eq X d_M_fit_72 (fun c3 => ?_) (fun c3 => ?_)
              · exact absurd c3 (by decide)
              · refine pg_iload_n X d_M_fit_75 rfl ?_
                refine pg_iconst X (1) d_M_fit_76 (by decide) ?_
                refine pg_iadd X d_M_fit_77 ?_
                refine pg_goto X d_M_fit_78 ?_
                refine pg_istore2 X d_M_fit_82 ?_
                exact sec
          refine pg_icmp_le X d_M_fit_51 (fun c3 => ?_) (fun c3 => ?_)
          · refine pg_aload_n X d_M_fit_59 rfl ?_
            refine pg_getf X (f_M_17 hG) d_M_fit_60 (px_rd_of (by first | exact R.o | exact R _ (by decide) | assumption)) rfl ?_
            refine pg_iload X d_M_fit_63 rfl ?_
            refine pg_ialdN X d_M_fit_65 (px_rd_of (by first | exact R.o | exact R _ (by decide) | assumption)) (by first | assumption | omega) (by first | assumption | omega) ?_
            refine pg_bipush X (10) d_M_fit_66 (by decide) ?_
            refine pg_iadd X d_M_fit_68 ?_
            rw [e3]
            rw [if_neg (k2_nlt c3)] at bb1
            rw [bb1] at aft
            exact aft
          · refine pg_bipush X (100) d_M_fit_54 (by decide) ?_
            refine pg_goto X d_M_fit_56 ?_
            rw [if_pos (k2_lt c3)] at bb1
            rw [bb1] at aft
            exact aft
      refine pg_iconst X (0) d_M_fit_17 (by decide) ?_
      refine pg_istore2 X d_M_fit_18 ?_
      refine pg_iconst X (0) d_M_fit_19 (by decide) ?_
      refine pg_istore3 X d_M_fit_20 ?_
      refine loop (r * nt) 0 none _ _ (by omega) ?_ FrE.t0 up2_s S
      show CH (upr h 3 (h 3)) (up2 μ 0 0 0) wd ht nt nd
      rw [upr_same]
      exact C.r (FrR.s0 (tl := tl) (Or.inl rfl))
    · exact absurd c1 (by decide)
  · refine pg_iconst X (1) d_M_fit_7 (by decide) ?_
    refine pg_iconst X (1) d_M_fit_8 (by decide) ?_
    refine pc_V (ci := 4) (As := [_, _, _]) X Y d_M_fit_9 (c_M_105 hG) (i_M_goes hG) (v_M_goes hG) (fun r h => by rw [hG.2] at h; cases h; rfl) rfl rfl (Nat.le_of_ble_eq_true rfl) (by rw [hR]; exact ⟨by decide, by decide⟩) (by decide) (by decide) (by rw [hR]; first | decide | (dsimp only [px_rm]; omega)) (by rw [hR]; first | decide | (dsimp only [px_rm]; omega)) (px_rd_of (by first | exact R.o | assumption)) (t_M_goes A S (fun q2 => absurd rfl q2.1) (fun q2 π1 S1 => ?_))
    refine pg_if_ne X d_M_fit_12 (fun c1 => ?_) (fun c1 => ?_)
    · exact absurd rfl c1
    refine pg_iconst X (0) d_M_fit_15 (by decide) ?_
    exact pg_iret X Y d_M_fit_16 rfl (by decide) (Nat.zero_le _) (Nat.zero_le _) (k0 (fun ⟨r, e, g1, g2⟩ => q1 (by rw [e]; exact ⟨nI_le (a := 1) g1 (by omega), nI_le (b := 3) g2 (by decide)⟩)) _ S1)
end MFI
