/-! VISITOR'S METHODS -/
section VIS
variable {l : Launch} {G : px_Cg} {π : px_H} {K : Option Value ⊕ String → px_H → Prop}
/-- the visitor at a: goal (6) and looked (7) -/
theorem t_P_turnTo (A : GA G) {a : Nat} {x : Int32} {f0 f1 f2 f3 f4 f5 f6 f7 f8 f9 : Int32} (ha : π.2 a = some (.inr (1, [.int f0, .int f1, .int f2, .int f3, .int f4, .int f5, .int f6, .int f7, .int f8, .int f9]))) (k : K (.inl none) (px_wr π a (.inr (1, [.int f0, .int f1, .int f2, .int f3, .int f4, .int f5, .int x, .int 0, .int f8, .int f9])))) :
    px_P l G y_P_turnTo b_P_turnTo 2 none (px_rm 0 0) true [.ref a, .int x] π K := by
  have hG := A.1
  have hZ := A.2.1
  refine px_P.intro (by decide) hZ (by simp [Value.category]) (Nat.le_of_ble_eq_true rfl) rfl ?_
  intro Γ hl hR X Y hnm hs hbel
  subst hl
  refine pg_w ?_
  refine pg_aload_n X d_P_turnTo_0 rfl ?_
  refine pg_iload_n X d_P_turnTo_1 rfl ?_
  refine pg_putf X (f_P_30 hG) (ct_P hG) (nf_P_goal hG) rfl rfl d_P_turnTo_2 (by assumption) ?_
  have ha2 := px_wr_self (π := π) (a := a) (e := .inr (1, [Value.int f0, .int f1, .int f2, .int f3, .int f4, .int f5, .int x, .int f7, .int f8, .int f9]))
  refine pg_aload_n X d_P_turnTo_5 rfl ?_
  refine pg_iconst X (0) d_P_turnTo_6 (by decide) ?_
  refine pg_putf X (f_P_33 hG) (ct_P hG) (nf_P_looked hG) rfl rfl d_P_turnTo_7 (by assumption) ?_
  rw [px_wr_wr]
  exact pg_vret X Y d_P_turnTo_10 (by decide) (Nat.zero_le _) (Nat.zero_le _) (k)
def px_sb (b t : Int32) : Int32 := b >>> (t &&& 31) &&& 1
theorem t_P_hasSeen (A : GA G) {a : Nat} {x : Int32} {f0 f1 f2 f3 f4 f5 f6 f7 f8 f9 : Int32} (ha : π.2 a = some (.inr (1, [.int f0, .int f1, .int f2, .int f3, .int f4, .int f5, .int f6, .int f7, .int f8, .int f9]))) (k1 : ¬ px_sb f8 x = 0 → K (.inl (some (.int 1))) π) (k0 : px_sb f8 x = 0 → K (.inl (some (.int 0))) π) :
    px_P l G y_P_hasSeen b_P_hasSeen 2 (some .boolean) (px_rm 0 0) false [.ref a, .int x] π K := by
  have hG := A.1
  have hZ := A.2.1
  refine px_P.intro (by decide) hZ (by simp [Value.category]) (Nat.le_of_ble_eq_true rfl) rfl ?_
  intro Γ hl hR X Y hnm hs hbel
  subst hl
  refine pg_aload_n X d_P_hasSeen_0 rfl ?_
  refine pg_getf X (f_P_36 hG) d_P_hasSeen_1 (px_rd_of (by assumption)) rfl ?_
  refine pg_iload_n X d_P_hasSeen_4 rfl ?_
  refine pg_ishr X d_P_hasSeen_5 ?_
  refine pg_iconst X (1) d_P_hasSeen_6 (by decide) ?_
  refine pg_iand X d_P_hasSeen_7 ?_
  refine pg_if_eq X d_P_hasSeen_8 (fun c => ?_) (fun c => ?_)
  · refine pg_iconst X (0) d_P_hasSeen_15 (by decide) ?_
    exact pg_iret X Y d_P_hasSeen_16 rfl (by decide) (Nat.zero_le _) (Nat.zero_le _) (k0 c)
  · refine pg_iconst X (1) d_P_hasSeen_11 (by decide) ?_
    refine pg_goto X d_P_hasSeen_12 ?_
    exact pg_iret X Y d_P_hasSeen_16 rfl (by decide) (Nat.zero_le _) (Nat.zero_le _) (k1 c)
end VIS
