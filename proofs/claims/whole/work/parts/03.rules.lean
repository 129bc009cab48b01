/-! RULES: px_G goes on, instruction by instruction -/
abbrev px_Cm : Type := Program × Launch × Env × Room × State × MethodId × Array Value × List Frame × Method × Code
abbrev px_Cm.p (Γ : px_Cm) : Program := Γ.1
abbrev px_Cm.l (Γ : px_Cm) : Launch := Γ.2.1
abbrev px_Cm.e (Γ : px_Cm) : Env := Γ.2.2.1
abbrev px_Cm.R (Γ : px_Cm) : Room := Γ.2.2.2.1
abbrev px_Cm.s (Γ : px_Cm) : State := Γ.2.2.2.2.1
abbrev px_Cm.m (Γ : px_Cm) : MethodId := Γ.2.2.2.2.2.1
abbrev px_Cm.args (Γ : px_Cm) : Array Value := Γ.2.2.2.2.2.2.1
abbrev px_Cm.below (Γ : px_Cm) : List Frame := Γ.2.2.2.2.2.2.2.1
abbrev px_Cm.meth (Γ : px_Cm) : Method := Γ.2.2.2.2.2.2.2.2.1
abbrev px_Cm.c (Γ : px_Cm) : Code := Γ.2.2.2.2.2.2.2.2.2
abbrev px_Cg : Type := State × va_G × List vw_C × Nat × (Nat → Option px_E) × List Cond
abbrev px_Cg.S0 (G : px_Cg) : State := G.1
abbrev px_Cg.D (G : px_Cg) : va_G := G.2.1
abbrev px_Cg.cl (G : px_Cg) : List vw_C := G.2.2.1
abbrev px_Cg.z0 (G : px_Cg) : Nat := G.2.2.2.1
abbrev px_Cg.ρ (G : px_Cg) : Nat → Option px_E := G.2.2.2.2.1
abbrev px_Cg.Ts (G : px_Cg) : List Cond := G.2.2.2.2.2
def px_fr (G : px_Cg) (w : Bool) (q : Nat) : Prop := w = true ∧ G.z0 ≤ q
def px_G (Γ : px_Cm) (G : px_Cg) (Q : State → Prop) (w : Bool) (nc ns pc : Nat) (ls : List (Option Value)) (st : List Value) (π : px_H) : Prop :=
  ∀ (H : Heap) (lsA : Array Slot) (locs : List Loc), px_L Γ.c.maxLocals ls lsA → px_M G.S0 G.D G.cl G.z0 π H → (∀ q ∈ locs, px_fr G w q.base) →
    W Γ.p Γ.l Γ.e Γ.R Γ.s Γ.m Γ.args Γ.below Γ.meth Γ.c H locs nc ns Q (F0 Γ.m pc lsA st)
def px_X (Γ : px_Cm) (G : px_Cg) (cc : ByteArray) (own : String) : Prop :=
  Γ.p.tables.exec = Jvm.exec ∧ Γ.c.code = cc ∧ Γ.s.vm.findClass own = some Γ.m.cls ∧ G.S0.WarmedH Γ.s.vm ∧ px_Z G.S0 G.D G.cl G.z0 G.ρ G.Ts
def px_D (cc : ByteArray) (pc : Nat) (i : Instr) (n q : Nat) : Prop := decode cc pc = .ok (i, n) ∧ pc + n = q
def px_J (cc : ByteArray) (pc : Nat) (i : Instr) (n q : Nat) (off : Int) (tgt : Nat) : Prop := decode cc pc = .ok (i, n) ∧ pc + n = q ∧ (pc : Int) + off = (tgt : Int)
section PGR
variable {Γ : px_Cm} {G : px_Cg} {Q : State → Prop} {cc : ByteArray} {own : String} {w : Bool} {nc ns pc q : Nat} {ls : List (Option Value)} {st : List Value} {π : px_H}
theorem px_X.word (X : px_X Γ G cc own) {w : Cond} (hw : w ∈ G.Ts) : w.before Γ.args Γ.s = true := px_word X.2.2.2.2 X.2.2.2.1 _ hw
theorem px_X.al (X : px_X Γ G cc own) : G.S0.vm.Alike Γ.s.vm := X.2.2.2.1.alike
theorem px_X.K (X : px_X Γ G cc own) : va_K G.D G.cl [] Γ.s := va_K.moved X.al X.2.2.2.2.2.1
theorem px_X.rd (X : px_X Γ G cc own) {H : Heap} (hM : px_M G.S0 G.D G.cl G.z0 π H) {a : Nat} {e : px_E} (hr : px_rd G.ρ π a = some e) : px_at G.D G.cl Γ.s a e H := by
  unfold px_rd at hr
  cases h : π.2 a with
  | some e' =>
    rw [h] at hr
    cases hr
    exact (hM.2.2.2 a e h).2.moved X.al
  | none =>
    rw [h] at hr
    obtain ⟨h1, h2⟩ := X.2.2.2.2.2.2 a e hr
    exact (h2.kept (hM.2.2.1 a h1)).moved X.al

theorem pg_iconst (X : px_X Γ G cc own) {n : Int} (v : Int32) (hd : px_D cc pc (.iconst n) 1 q) (hv : Int32.ofInt n = v) (k : px_G Γ G Q w nc ns q ls (.int v :: st) π) : px_G Γ G Q w nc ns pc ls (st) π := by
  obtain ⟨hd, rfl⟩ := hd
  exact fun H lsA locs hL hM hl => lv_iconst X.1 X.2.1 hd hv (k H lsA locs hL hM hl)
theorem pg_bipush (X : px_X Γ G cc own) {n : Int} (v : Int32) (hd : px_D cc pc (.bipush n) 2 q) (hv : (Int8.ofInt n).toInt32 = v) (k : px_G Γ G Q w nc ns q ls (.int v :: st) π) : px_G Γ G Q w nc ns pc ls (st) π := by
  obtain ⟨hd, rfl⟩ := hd
  exact fun H lsA locs hL hM hl => lv_bipush X.1 X.2.1 hd hv (k H lsA locs hL hM hl)
theorem pg_sipush (X : px_X Γ G cc own) {n : Int} (v : Int32) (hd : px_D cc pc (.sipush n) 3 q) (hv : (Int16.ofInt n).toInt32 = v) (k : px_G Γ G Q w nc ns q ls (.int v :: st) π) : px_G Γ G Q w nc ns pc ls (st) π := by
  obtain ⟨hd, rfl⟩ := hd
  exact fun H lsA locs hL hM hl => lv_sipush X.1 X.2.1 hd hv (k H lsA locs hL hM hl)
theorem pg_ldc (X : px_X Γ G cc own) {index : Nat} (v : Int32) (hd : px_D cc pc (.ldc index) 2 q) (hw : Cond.constant own index v ∈ G.Ts) (k : px_G Γ G Q w nc ns q ls (.int v :: st) π) : px_G Γ G Q w nc ns pc ls (st) π := by
  obtain ⟨hd, rfl⟩ := hd
  exact fun H lsA locs hL hM hl => lv_ldc X.1 X.2.1 X.2.2.1 (X.word hw) hd (k H lsA locs hL hM hl)
theorem pg_iload_n (X : px_X Γ G cc own) {k : Fin 4} {x : Int32} (hd : px_D cc pc (.iload_n k) 1 q) (hr : ls[(k : Nat)]? = some (some (.int x))) (k : px_G Γ G Q w nc ns q ls (.int x :: st) π) : px_G Γ G Q w nc ns pc ls (st) π := by
  obtain ⟨hd, rfl⟩ := hd
  exact fun H lsA locs hL hM hl => lv_iload_n X.1 X.2.1 hd rfl (hL.rd hr) (k H lsA locs hL hM hl)
theorem pg_iload (X : px_X Γ G cc own) {i : Nat} {x : Int32} (hd : px_D cc pc (.iload i) 2 q) (hr : ls[i]? = some (some (.int x))) (k : px_G Γ G Q w nc ns q ls (.int x :: st) π) : px_G Γ G Q w nc ns pc ls (st) π := by
  obtain ⟨hd, rfl⟩ := hd
  exact fun H lsA locs hL hM hl => lv_iload X.1 X.2.1 hd (hL.rd hr) (k H lsA locs hL hM hl)
theorem pg_aload_n (X : px_X Γ G cc own) {k : Fin 4} {x : Nat} (hd : px_D cc pc (.aload_n k) 1 q) (hr : ls[(k : Nat)]? = some (some (.ref x))) (k : px_G Γ G Q w nc ns q ls (.ref x :: st) π) : px_G Γ G Q w nc ns pc ls (st) π := by
  obtain ⟨hd, rfl⟩ := hd
  exact fun H lsA locs hL hM hl => lv_aload_n X.1 X.2.1 hd rfl (hL.rd hr) (k H lsA locs hL hM hl)
theorem pg_aload (X : px_X Γ G cc own) {i : Nat} {x : Nat} (hd : px_D cc pc (.aload i) 2 q) (hr : ls[i]? = some (some (.ref x))) (k : px_G Γ G Q w nc ns q ls (.ref x :: st) π) : px_G Γ G Q w nc ns pc ls (st) π := by
  obtain ⟨hd, rfl⟩ := hd
  exact fun H lsA locs hL hM hl => lv_aload X.1 X.2.1 hd (hL.rd hr) (k H lsA locs hL hM hl)
theorem pg_iadd (X : px_X Γ G cc own) {x y : Int32} (hd : px_D cc pc .iadd 1 q)  (k : px_G Γ G Q w nc ns q ls (.int (x + y) :: st) π) : px_G Γ G Q w nc ns pc ls (.int y :: .int x :: st) π := by
  obtain ⟨hd, rfl⟩ := hd
  exact fun H lsA locs hL hM hl => lv_iadd X.1 X.2.1 hd (k H lsA locs hL hM hl)
theorem pg_isub (X : px_X Γ G cc own) {x y : Int32} (hd : px_D cc pc .isub 1 q)  (k : px_G Γ G Q w nc ns q ls (.int (x - y) :: st) π) : px_G Γ G Q w nc ns pc ls (.int y :: .int x :: st) π := by
  obtain ⟨hd, rfl⟩ := hd
  exact fun H lsA locs hL hM hl => lv_isub X.1 X.2.1 hd (k H lsA locs hL hM hl)
theorem pg_imul (X : px_X Γ G cc own) {x y : Int32} (hd : px_D cc pc .imul 1 q)  (k : px_G Γ G Q w nc ns q ls (.int (x * y) :: st) π) : px_G Γ G Q w nc ns pc ls (.int y :: .int x :: st) π := by
  obtain ⟨hd, rfl⟩ := hd
  exact fun H lsA locs hL hM hl => lv_imul X.1 X.2.1 hd (k H lsA locs hL hM hl)
theorem pg_iand (X : px_X Γ G cc own) {x y : Int32} (hd : px_D cc pc .iand 1 q)  (k : px_G Γ G Q w nc ns q ls (.int (x &&& y) :: st) π) : px_G Γ G Q w nc ns pc ls (.int y :: .int x :: st) π := by
  obtain ⟨hd, rfl⟩ := hd
  exact fun H lsA locs hL hM hl => lv_iand X.1 X.2.1 hd (k H lsA locs hL hM hl)
theorem pg_ior (X : px_X Γ G cc own) {x y : Int32} (hd : px_D cc pc .ior 1 q)  (k : px_G Γ G Q w nc ns q ls (.int (x ||| y) :: st) π) : px_G Γ G Q w nc ns pc ls (.int y :: .int x :: st) π := by
  obtain ⟨hd, rfl⟩ := hd
  exact fun H lsA locs hL hM hl => lv_ior X.1 X.2.1 hd (k H lsA locs hL hM hl)
theorem pg_ixor (X : px_X Γ G cc own) {x y : Int32} (hd : px_D cc pc .ixor 1 q)  (k : px_G Γ G Q w nc ns q ls (.int (x ^^^ y) :: st) π) : px_G Γ G Q w nc ns pc ls (.int y :: .int x :: st) π := by
  obtain ⟨hd, rfl⟩ := hd
  exact fun H lsA locs hL hM hl => lv_ixor X.1 X.2.1 hd (k H lsA locs hL hM hl)
theorem pg_ishl (X : px_X Γ G cc own) {x y : Int32} (hd : px_D cc pc .ishl 1 q)  (k : px_G Γ G Q w nc ns q ls (.int (x <<< (y &&& 31)) :: st) π) : px_G Γ G Q w nc ns pc ls (.int y :: .int x :: st) π := by
  obtain ⟨hd, rfl⟩ := hd
  exact fun H lsA locs hL hM hl => lv_ishl X.1 X.2.1 hd (k H lsA locs hL hM hl)
theorem pg_ishr (X : px_X Γ G cc own) {x y : Int32} (hd : px_D cc pc .ishr 1 q)  (k : px_G Γ G Q w nc ns q ls (.int (x >>> (y &&& 31)) :: st) π) : px_G Γ G Q w nc ns pc ls (.int y :: .int x :: st) π := by
  obtain ⟨hd, rfl⟩ := hd
  exact fun H lsA locs hL hM hl => lv_ishr X.1 X.2.1 hd (k H lsA locs hL hM hl)
theorem pg_idiv (X : px_X Γ G cc own) {x y : Int32} (hd : px_D cc pc .idiv 1 q) (hne : ¬ y = 0) (k : px_G Γ G Q w nc ns q ls (.int (x / y) :: st) π) : px_G Γ G Q w nc ns pc ls (.int y :: .int x :: st) π := by
  obtain ⟨hd, rfl⟩ := hd
  exact fun H lsA locs hL hM hl => lv_idiv X.1 X.2.1 hd hne (k H lsA locs hL hM hl)
theorem pg_irem (X : px_X Γ G cc own) {x y : Int32} (hd : px_D cc pc .irem 1 q) (hne : ¬ y = 0) (k : px_G Γ G Q w nc ns q ls (.int (x - x / y * y) :: st) π) : px_G Γ G Q w nc ns pc ls (.int y :: .int x :: st) π := by
  obtain ⟨hd, rfl⟩ := hd
  exact fun H lsA locs hL hM hl => lv_irem X.1 X.2.1 hd hne (k H lsA locs hL hM hl)
theorem pg_ineg (X : px_X Γ G cc own) {x : Int32} (hd : px_D cc pc .ineg 1 q)  (k : px_G Γ G Q w nc ns q ls (.int (-x) :: st) π) : px_G Γ G Q w nc ns pc ls (.int x :: st) π := by
  obtain ⟨hd, rfl⟩ := hd
  exact fun H lsA locs hL hM hl => lv_ineg X.1 X.2.1 hd (k H lsA locs hL hM hl)
theorem pg_dup (X : px_X Γ G cc own) {va : Value} (hd : px_D cc pc .dup 1 q) (hc : va.category = 1) (k : px_G Γ G Q w nc ns q ls (va :: va :: st) π) : px_G Γ G Q w nc ns pc ls (va :: st) π := by
  obtain ⟨hd, rfl⟩ := hd
  exact fun H lsA locs hL hM hl => lv_dup X.1 X.2.1 hd hc (k H lsA locs hL hM hl)
theorem pg_pop (X : px_X Γ G cc own) {va : Value} (hd : px_D cc pc .pop 1 q) (hc : va.category = 1) (k : px_G Γ G Q w nc ns q ls (st) π) : px_G Γ G Q w nc ns pc ls (va :: st) π := by
  obtain ⟨hd, rfl⟩ := hd
  exact fun H lsA locs hL hM hl => lv_pop X.1 X.2.1 hd hc (k H lsA locs hL hM hl)
theorem pg_dup_x1 (X : px_X Γ G cc own) {va vb : Value} (hd : px_D cc pc .dup_x1 1 q) (hc : va.category = 1) (hc2 : vb.category = 1) (k : px_G Γ G Q w nc ns q ls (va :: vb :: va :: st) π) : px_G Γ G Q w nc ns pc ls (va :: vb :: st) π := by
  obtain ⟨hd, rfl⟩ := hd
  exact fun H lsA locs hL hM hl => lv_dup_x1 X.1 X.2.1 hd hc hc2 (k H lsA locs hL hM hl)
theorem pg_dup_x2 (X : px_X Γ G cc own) {va vb vc : Value} (hd : px_D cc pc .dup_x2 1 q) (hc : va.category = 1) (hc2 : vb.category = 1) (hc3 : vc.category = 1) (k : px_G Γ G Q w nc ns q ls (va :: vb :: vc :: va :: st) π) : px_G Γ G Q w nc ns pc ls (va :: vb :: vc :: st) π := by
  obtain ⟨hd, rfl⟩ := hd
  exact fun H lsA locs hL hM hl => lv_dup_x2 X.1 X.2.1 hd hc hc2 hc3 (k H lsA locs hL hM hl)
theorem pg_dup2 (X : px_X Γ G cc own) {va vb : Value} (hd : px_D cc pc .dup2 1 q) (hc : va.category = 1) (hc2 : vb.category = 1) (k : px_G Γ G Q w nc ns q ls (va :: vb :: va :: vb :: st) π) : px_G Γ G Q w nc ns pc ls (va :: vb :: st) π := by
  obtain ⟨hd, rfl⟩ := hd
  exact fun H lsA locs hL hM hl => lv_dup2_11 X.1 X.2.1 hd hc hc2 (k H lsA locs hL hM hl)
theorem pg_lconst (X : px_X Γ G cc own) {n : Fin 2} (v : Int64) (hd : px_D cc pc (.lconst n) 1 q) (hv : Int64.ofNat (n : Nat) = v) (k : px_G Γ G Q w nc ns q ls (.long v :: st) π) : px_G Γ G Q w nc ns pc ls (st) π := by
  obtain ⟨hd, rfl⟩ := hd
  exact fun H lsA locs hL hM hl => lv_lconst X.1 X.2.1 hd hv (k H lsA locs hL hM hl)
theorem pg_i2l (X : px_X Γ G cc own) {x : Int32} (hd : px_D cc pc .i2l 1 q)  (k : px_G Γ G Q w nc ns q ls (.long x.toInt64 :: st) π) : px_G Γ G Q w nc ns pc ls (.int x :: st) π := by
  obtain ⟨hd, rfl⟩ := hd
  exact fun H lsA locs hL hM hl => lv_i2l X.1 X.2.1 hd rfl (k H lsA locs hL hM hl)
theorem pg_lcmp (X : px_X Γ G cc own) {x y : Int64} (hd : px_D cc pc .lcmp 1 q)  (k : px_G Γ G Q w nc ns q ls (.int (lg_cmp x y) :: st) π) : px_G Γ G Q w nc ns pc ls (.long y :: .long x :: st) π := by
  obtain ⟨hd, rfl⟩ := hd
  exact fun H lsA locs hL hM hl => W.lcmp X.1 X.2.1 hd (k H lsA locs hL hM hl)
theorem px_storeG {x : Value} {i : Nat} (hi : i < ls.length) (hc : x.category = 1) (k : px_G Γ G Q w nc ns q (ls.set i (some x)) st π) {H : Heap} {lsA lsA' : Array Slot} {locs : List Loc} (hL : px_L Γ.c.maxLocals ls lsA) (hM : px_M G.S0 G.D G.cl G.z0 π H) (hl : ∀ q ∈ locs, px_fr G w q.base) (h : lv_has lsA' Γ.c.maxLocals ((i, x) :: (px_lv ls).filter (fun q => !(q.1 == i) && !(q.1 + 1 == i && q.2.category == 2)))) : W Γ.p Γ.l Γ.e Γ.R Γ.s Γ.m Γ.args Γ.below Γ.meth Γ.c H locs nc ns Q (F0 Γ.m q lsA' st) := k H lsA' locs (hL.store hi hc h) hM hl
theorem pg_istore_g (X : px_X Γ G cc own) {i : Nat} {x : Int32} (hd : px_D cc pc (.istore i) 2 q) (hi : i < ls.length) (k : px_G Γ G Q w nc ns q (ls.set i (some (.int x))) st π) : px_G Γ G Q w nc ns pc ls (.int x :: st) π := by
  obtain ⟨hd, rfl⟩ := hd
  exact fun H lsA locs hL hM hl => lv_istore X.1 X.2.1 hd hL.has (by rw [← hL.2.2.1]; exact hi) rfl (fun ls' h => px_storeG hi rfl k hL hM hl h)
theorem pg_istore_ng (X : px_X Γ G cc own) {i : Fin 4} {x : Int32} (hd : px_D cc pc (.istore_n i) 1 q) (hi : (i : Nat) < ls.length) (k : px_G Γ G Q w nc ns q (ls.set (i : Nat) (some (.int x))) st π) : px_G Γ G Q w nc ns pc ls (.int x :: st) π := by
  obtain ⟨hd, rfl⟩ := hd
  exact fun H lsA locs hL hM hl => lv_istore_n X.1 X.2.1 hd rfl hL.has (by rw [← hL.2.2.1]; exact hi) rfl (fun ls' h => px_storeG hi rfl k hL hM hl h)
theorem pg_istore0 (X : px_X Γ G cc own) {l0 : Option Value} {r : List (Option Value)} {x : Int32} (hd : px_D cc pc (.istore_n 0) 1 q) (k : px_G Γ G Q w nc ns q (some (.int x) :: r) st π) : px_G Γ G Q w nc ns pc (l0 :: r) (.int x :: st) π := pg_istore_ng X hd (by first | (simp; done) | (have h := (3 : Fin 4).isLt; simp only [List.length_cons]; omega)) k
theorem pg_istore1 (X : px_X Γ G cc own) {l0 l1 : Option Value} {r : List (Option Value)} {x : Int32} (hd : px_D cc pc (.istore_n 1) 1 q) (k : px_G Γ G Q w nc ns q (l0 :: some (.int x) :: r) st π) : px_G Γ G Q w nc ns pc (l0 :: l1 :: r) (.int x :: st) π := pg_istore_ng X hd (by first | (simp; done) | (have h := (3 : Fin 4).isLt; simp only [List.length_cons]; omega)) k
theorem pg_istore2 (X : px_X Γ G cc own) {l0 l1 l2 : Option Value} {r : List (Option Value)} {x : Int32} (hd : px_D cc pc (.istore_n 2) 1 q) (k : px_G Γ G Q w nc ns q (l0 :: l1 :: some (.int x) :: r) st π) : px_G Γ G Q w nc ns pc (l0 :: l1 :: l2 :: r) (.int x :: st) π := pg_istore_ng X hd (by first | (simp; done) | (have h := (3 : Fin 4).isLt; simp only [List.length_cons]; omega)) k
theorem pg_istore3 (X : px_X Γ G cc own) {l0 l1 l2 l3 : Option Value} {r : List (Option Value)} {x : Int32} (hd : px_D cc pc (.istore_n 3) 1 q) (k : px_G Γ G Q w nc ns q (l0 :: l1 :: l2 :: some (.int x) :: r) st π) : px_G Γ G Q w nc ns pc (l0 :: l1 :: l2 :: l3 :: r) (.int x :: st) π := pg_istore_ng X hd (by first | (simp; done) | (have h := (3 : Fin 4).isLt; simp only [List.length_cons]; omega)) k
theorem pg_istore4 (X : px_X Γ G cc own) {l0 l1 l2 l3 l4 : Option Value} {r : List (Option Value)} {x : Int32} (hd : px_D cc pc (.istore 4) 2 q) (k : px_G Γ G Q w nc ns q (l0 :: l1 :: l2 :: l3 :: some (.int x) :: r) st π) : px_G Γ G Q w nc ns pc (l0 :: l1 :: l2 :: l3 :: l4 :: r) (.int x :: st) π := pg_istore_g X hd (by first | (simp; done) | (have h := (3 : Fin 4).isLt; simp only [List.length_cons]; omega)) k
theorem pg_istore5 (X : px_X Γ G cc own) {l0 l1 l2 l3 l4 l5 : Option Value} {r : List (Option Value)} {x : Int32} (hd : px_D cc pc (.istore 5) 2 q) (k : px_G Γ G Q w nc ns q (l0 :: l1 :: l2 :: l3 :: l4 :: some (.int x) :: r) st π) : px_G Γ G Q w nc ns pc (l0 :: l1 :: l2 :: l3 :: l4 :: l5 :: r) (.int x :: st) π := pg_istore_g X hd (by first | (simp; done) | (have h := (3 : Fin 4).isLt; simp only [List.length_cons]; omega)) k
theorem pg_istore6 (X : px_X Γ G cc own) {l0 l1 l2 l3 l4 l5 l6 : Option Value} {r : List (Option Value)} {x : Int32} (hd : px_D cc pc (.istore 6) 2 q) (k : px_G Γ G Q w nc ns q (l0 :: l1 :: l2 :: l3 :: l4 :: l5 :: some (.int x) :: r) st π) : px_G Γ G Q w nc ns pc (l0 :: l1 :: l2 :: l3 :: l4 :: l5 :: l6 :: r) (.int x :: st) π := pg_istore_g X hd (by first | (simp; done) | (have h := (3 : Fin 4).isLt; simp only [List.length_cons]; omega)) k
theorem pg_istore7 (X : px_X Γ G cc own) {l0 l1 l2 l3 l4 l5 l6 l7 : Option Value} {r : List (Option Value)} {x : Int32} (hd : px_D cc pc (.istore 7) 2 q) (k : px_G Γ G Q w nc ns q (l0 :: l1 :: l2 :: l3 :: l4 :: l5 :: l6 :: some (.int x) :: r) st π) : px_G Γ G Q w nc ns pc (l0 :: l1 :: l2 :: l3 :: l4 :: l5 :: l6 :: l7 :: r) (.int x :: st) π := pg_istore_g X hd (by first | (simp; done) | (have h := (3 : Fin 4).isLt; simp only [List.length_cons]; omega)) k
theorem pg_istore8 (X : px_X Γ G cc own) {l0 l1 l2 l3 l4 l5 l6 l7 l8 : Option Value} {r : List (Option Value)} {x : Int32} (hd : px_D cc pc (.istore 8) 2 q) (k : px_G Γ G Q w nc ns q (l0 :: l1 :: l2 :: l3 :: l4 :: l5 :: l6 :: l7 :: some (.int x) :: r) st π) : px_G Γ G Q w nc ns pc (l0 :: l1 :: l2 :: l3 :: l4 :: l5 :: l6 :: l7 :: l8 :: r) (.int x :: st) π := pg_istore_g X hd (by first | (simp; done) | (have h := (3 : Fin 4).isLt; simp only [List.length_cons]; omega)) k
theorem pg_istore9 (X : px_X Γ G cc own) {l0 l1 l2 l3 l4 l5 l6 l7 l8 l9 : Option Value} {r : List (Option Value)} {x : Int32} (hd : px_D cc pc (.istore 9) 2 q) (k : px_G Γ G Q w nc ns q (l0 :: l1 :: l2 :: l3 :: l4 :: l5 :: l6 :: l7 :: l8 :: some (.int x) :: r) st π) : px_G Γ G Q w nc ns pc (l0 :: l1 :: l2 :: l3 :: l4 :: l5 :: l6 :: l7 :: l8 :: l9 :: r) (.int x :: st) π := pg_istore_g X hd (by first | (simp; done) | (have h := (3 : Fin 4).isLt; simp only [List.length_cons]; omega)) k
theorem pg_istore10 (X : px_X Γ G cc own) {l0 l1 l2 l3 l4 l5 l6 l7 l8 l9 l10 : Option Value} {r : List (Option Value)} {x : Int32} (hd : px_D cc pc (.istore 10) 2 q) (k : px_G Γ G Q w nc ns q (l0 :: l1 :: l2 :: l3 :: l4 :: l5 :: l6 :: l7 :: l8 :: l9 :: some (.int x) :: r) st π) : px_G Γ G Q w nc ns pc (l0 :: l1 :: l2 :: l3 :: l4 :: l5 :: l6 :: l7 :: l8 :: l9 :: l10 :: r) (.int x :: st) π := pg_istore_g X hd (by first | (simp; done) | (have h := (3 : Fin 4).isLt; simp only [List.length_cons]; omega)) k
theorem pg_istore11 (X : px_X Γ G cc own) {l0 l1 l2 l3 l4 l5 l6 l7 l8 l9 l10 l11 : Option Value} {r : List (Option Value)} {x : Int32} (hd : px_D cc pc (.istore 11) 2 q) (k : px_G Γ G Q w nc ns q (l0 :: l1 :: l2 :: l3 :: l4 :: l5 :: l6 :: l7 :: l8 :: l9 :: l10 :: some (.int x) :: r) st π) : px_G Γ G Q w nc ns pc (l0 :: l1 :: l2 :: l3 :: l4 :: l5 :: l6 :: l7 :: l8 :: l9 :: l10 :: l11 :: r) (.int x :: st) π := pg_istore_g X hd (by first | (simp; done) | (have h := (3 : Fin 4).isLt; simp only [List.length_cons]; omega)) k
theorem pg_istore12 (X : px_X Γ G cc own) {l0 l1 l2 l3 l4 l5 l6 l7 l8 l9 l10 l11 l12 : Option Value} {r : List (Option Value)} {x : Int32} (hd : px_D cc pc (.istore 12) 2 q) (k : px_G Γ G Q w nc ns q (l0 :: l1 :: l2 :: l3 :: l4 :: l5 :: l6 :: l7 :: l8 :: l9 :: l10 :: l11 :: some (.int x) :: r) st π) : px_G Γ G Q w nc ns pc (l0 :: l1 :: l2 :: l3 :: l4 :: l5 :: l6 :: l7 :: l8 :: l9 :: l10 :: l11 :: l12 :: r) (.int x :: st) π := pg_istore_g X hd (by first | (simp; done) | (have h := (3 : Fin 4).isLt; simp only [List.length_cons]; omega)) k
theorem pg_istore13 (X : px_X Γ G cc own) {l0 l1 l2 l3 l4 l5 l6 l7 l8 l9 l10 l11 l12 l13 : Option Value} {r : List (Option Value)} {x : Int32} (hd : px_D cc pc (.istore 13) 2 q) (k : px_G Γ G Q w nc ns q (l0 :: l1 :: l2 :: l3 :: l4 :: l5 :: l6 :: l7 :: l8 :: l9 :: l10 :: l11 :: l12 :: some (.int x) :: r) st π) : px_G Γ G Q w nc ns pc (l0 :: l1 :: l2 :: l3 :: l4 :: l5 :: l6 :: l7 :: l8 :: l9 :: l10 :: l11 :: l12 :: l13 :: r) (.int x :: st) π := pg_istore_g X hd (by first | (simp; done) | (have h := (3 : Fin 4).isLt; simp only [List.length_cons]; omega)) k
theorem pg_istore14 (X : px_X Γ G cc own) {l0 l1 l2 l3 l4 l5 l6 l7 l8 l9 l10 l11 l12 l13 l14 : Option Value} {r : List (Option Value)} {x : Int32} (hd : px_D cc pc (.istore 14) 2 q) (k : px_G Γ G Q w nc ns q (l0 :: l1 :: l2 :: l3 :: l4 :: l5 :: l6 :: l7 :: l8 :: l9 :: l10 :: l11 :: l12 :: l13 :: some (.int x) :: r) st π) : px_G Γ G Q w nc ns pc (l0 :: l1 :: l2 :: l3 :: l4 :: l5 :: l6 :: l7 :: l8 :: l9 :: l10 :: l11 :: l12 :: l13 :: l14 :: r) (.int x :: st) π := pg_istore_g X hd (by first | (simp; done) | (have h := (3 : Fin 4).isLt; simp only [List.length_cons]; omega)) k
theorem pg_istore15 (X : px_X Γ G cc own) {l0 l1 l2 l3 l4 l5 l6 l7 l8 l9 l10 l11 l12 l13 l14 l15 : Option Value} {r : List (Option Value)} {x : Int32} (hd : px_D cc pc (.istore 15) 2 q) (k : px_G Γ G Q w nc ns q (l0 :: l1 :: l2 :: l3 :: l4 :: l5 :: l6 :: l7 :: l8 :: l9 :: l10 :: l11 :: l12 :: l13 :: l14 :: some (.int x) :: r) st π) : px_G Γ G Q w nc ns pc (l0 :: l1 :: l2 :: l3 :: l4 :: l5 :: l6 :: l7 :: l8 :: l9 :: l10 :: l11 :: l12 :: l13 :: l14 :: l15 :: r) (.int x :: st) π := pg_istore_g X hd (by first | (simp; done) | (have h := (3 : Fin 4).isLt; simp only [List.length_cons]; omega)) k
theorem pg_istore16 (X : px_X Γ G cc own) {l0 l1 l2 l3 l4 l5 l6 l7 l8 l9 l10 l11 l12 l13 l14 l15 l16 : Option Value} {r : List (Option Value)} {x : Int32} (hd : px_D cc pc (.istore 16) 2 q) (k : px_G Γ G Q w nc ns q (l0 :: l1 :: l2 :: l3 :: l4 :: l5 :: l6 :: l7 :: l8 :: l9 :: l10 :: l11 :: l12 :: l13 :: l14 :: l15 :: some (.int x) :: r) st π) : px_G Γ G Q w nc ns pc (l0 :: l1 :: l2 :: l3 :: l4 :: l5 :: l6 :: l7 :: l8 :: l9 :: l10 :: l11 :: l12 :: l13 :: l14 :: l15 :: l16 :: r) (.int x :: st) π := pg_istore_g X hd (by first | (simp; done) | (have h := (3 : Fin 4).isLt; simp only [List.length_cons]; omega)) k
theorem pg_istore17 (X : px_X Γ G cc own) {l0 l1 l2 l3 l4 l5 l6 l7 l8 l9 l10 l11 l12 l13 l14 l15 l16 l17 : Option Value} {r : List (Option Value)} {x : Int32} (hd : px_D cc pc (.istore 17) 2 q) (k : px_G Γ G Q w nc ns q (l0 :: l1 :: l2 :: l3 :: l4 :: l5 :: l6 :: l7 :: l8 :: l9 :: l10 :: l11 :: l12 :: l13 :: l14 :: l15 :: l16 :: some (.int x) :: r) st π) : px_G Γ G Q w nc ns pc (l0 :: l1 :: l2 :: l3 :: l4 :: l5 :: l6 :: l7 :: l8 :: l9 :: l10 :: l11 :: l12 :: l13 :: l14 :: l15 :: l16 :: l17 :: r) (.int x :: st) π := pg_istore_g X hd (by first | (simp; done) | (have h := (3 : Fin 4).isLt; simp only [List.length_cons]; omega)) k
theorem pg_istore18 (X : px_X Γ G cc own) {l0 l1 l2 l3 l4 l5 l6 l7 l8 l9 l10 l11 l12 l13 l14 l15 l16 l17 l18 : Option Value} {r : List (Option Value)} {x : Int32} (hd : px_D cc pc (.istore 18) 2 q) (k : px_G Γ G Q w nc ns q (l0 :: l1 :: l2 :: l3 :: l4 :: l5 :: l6 :: l7 :: l8 :: l9 :: l10 :: l11 :: l12 :: l13 :: l14 :: l15 :: l16 :: l17 :: some (.int x) :: r) st π) : px_G Γ G Q w nc ns pc (l0 :: l1 :: l2 :: l3 :: l4 :: l5 :: l6 :: l7 :: l8 :: l9 :: l10 :: l11 :: l12 :: l13 :: l14 :: l15 :: l16 :: l17 :: l18 :: r) (.int x :: st) π := pg_istore_g X hd (by first | (simp; done) | (have h := (3 : Fin 4).isLt; simp only [List.length_cons]; omega)) k
theorem pg_istore19 (X : px_X Γ G cc own) {l0 l1 l2 l3 l4 l5 l6 l7 l8 l9 l10 l11 l12 l13 l14 l15 l16 l17 l18 l19 : Option Value} {r : List (Option Value)} {x : Int32} (hd : px_D cc pc (.istore 19) 2 q) (k : px_G Γ G Q w nc ns q (l0 :: l1 :: l2 :: l3 :: l4 :: l5 :: l6 :: l7 :: l8 :: l9 :: l10 :: l11 :: l12 :: l13 :: l14 :: l15 :: l16 :: l17 :: l18 :: some (.int x) :: r) st π) : px_G Γ G Q w nc ns pc (l0 :: l1 :: l2 :: l3 :: l4 :: l5 :: l6 :: l7 :: l8 :: l9 :: l10 :: l11 :: l12 :: l13 :: l14 :: l15 :: l16 :: l17 :: l18 :: l19 :: r) (.int x :: st) π := pg_istore_g X hd (by first | (simp; done) | (have h := (3 : Fin 4).isLt; simp only [List.length_cons]; omega)) k
theorem pg_astore_g (X : px_X Γ G cc own) {i : Nat} {x : Nat} (hd : px_D cc pc (.astore i) 2 q) (hi : i < ls.length) (k : px_G Γ G Q w nc ns q (ls.set i (some (.ref x))) st π) : px_G Γ G Q w nc ns pc ls (.ref x :: st) π := by
  obtain ⟨hd, rfl⟩ := hd
  exact fun H lsA locs hL hM hl => lv_astore X.1 X.2.1 hd hL.has (by rw [← hL.2.2.1]; exact hi) rfl (fun ls' h => px_storeG hi rfl k hL hM hl h)
theorem pg_astore_ng (X : px_X Γ G cc own) {i : Fin 4} {x : Nat} (hd : px_D cc pc (.astore_n i) 1 q) (hi : (i : Nat) < ls.length) (k : px_G Γ G Q w nc ns q (ls.set (i : Nat) (some (.ref x))) st π) : px_G Γ G Q w nc ns pc ls (.ref x :: st) π := by
  obtain ⟨hd, rfl⟩ := hd
  exact fun H lsA locs hL hM hl => lv_astore_n X.1 X.2.1 hd rfl hL.has (by rw [← hL.2.2.1]; exact hi) rfl (fun ls' h => px_storeG hi rfl k hL hM hl h)
theorem pg_astore0 (X : px_X Γ G cc own) {l0 : Option Value} {r : List (Option Value)} {x : Nat} (hd : px_D cc pc (.astore_n 0) 1 q) (k : px_G Γ G Q w nc ns q (some (.ref x) :: r) st π) : px_G Γ G Q w nc ns pc (l0 :: r) (.ref x :: st) π := pg_astore_ng X hd (by first | (simp; done) | (have h := (3 : Fin 4).isLt; simp only [List.length_cons]; omega)) k
theorem pg_astore1 (X : px_X Γ G cc own) {l0 l1 : Option Value} {r : List (Option Value)} {x : Nat} (hd : px_D cc pc (.astore_n 1) 1 q) (k : px_G Γ G Q w nc ns q (l0 :: some (.ref x) :: r) st π) : px_G Γ G Q w nc ns pc (l0 :: l1 :: r) (.ref x :: st) π := pg_astore_ng X hd (by first | (simp; done) | (have h := (3 : Fin 4).isLt; simp only [List.length_cons]; omega)) k
theorem pg_astore2 (X : px_X Γ G cc own) {l0 l1 l2 : Option Value} {r : List (Option Value)} {x : Nat} (hd : px_D cc pc (.astore_n 2) 1 q) (k : px_G Γ G Q w nc ns q (l0 :: l1 :: some (.ref x) :: r) st π) : px_G Γ G Q w nc ns pc (l0 :: l1 :: l2 :: r) (.ref x :: st) π := pg_astore_ng X hd (by first | (simp; done) | (have h := (3 : Fin 4).isLt; simp only [List.length_cons]; omega)) k
theorem pg_astore3 (X : px_X Γ G cc own) {l0 l1 l2 l3 : Option Value} {r : List (Option Value)} {x : Nat} (hd : px_D cc pc (.astore_n 3) 1 q) (k : px_G Γ G Q w nc ns q (l0 :: l1 :: l2 :: some (.ref x) :: r) st π) : px_G Γ G Q w nc ns pc (l0 :: l1 :: l2 :: l3 :: r) (.ref x :: st) π := pg_astore_ng X hd (by first | (simp; done) | (have h := (3 : Fin 4).isLt; simp only [List.length_cons]; omega)) k
theorem pg_astore4 (X : px_X Γ G cc own) {l0 l1 l2 l3 l4 : Option Value} {r : List (Option Value)} {x : Nat} (hd : px_D cc pc (.astore 4) 2 q) (k : px_G Γ G Q w nc ns q (l0 :: l1 :: l2 :: l3 :: some (.ref x) :: r) st π) : px_G Γ G Q w nc ns pc (l0 :: l1 :: l2 :: l3 :: l4 :: r) (.ref x :: st) π := pg_astore_g X hd (by first | (simp; done) | (have h := (3 : Fin 4).isLt; simp only [List.length_cons]; omega)) k
theorem pg_astore5 (X : px_X Γ G cc own) {l0 l1 l2 l3 l4 l5 : Option Value} {r : List (Option Value)} {x : Nat} (hd : px_D cc pc (.astore 5) 2 q) (k : px_G Γ G Q w nc ns q (l0 :: l1 :: l2 :: l3 :: l4 :: some (.ref x) :: r) st π) : px_G Γ G Q w nc ns pc (l0 :: l1 :: l2 :: l3 :: l4 :: l5 :: r) (.ref x :: st) π := pg_astore_g X hd (by first | (simp; done) | (have h := (3 : Fin 4).isLt; simp only [List.length_cons]; omega)) k
theorem pg_astore6 (X : px_X Γ G cc own) {l0 l1 l2 l3 l4 l5 l6 : Option Value} {r : List (Option Value)} {x : Nat} (hd : px_D cc pc (.astore 6) 2 q) (k : px_G Γ G Q w nc ns q (l0 :: l1 :: l2 :: l3 :: l4 :: l5 :: some (.ref x) :: r) st π) : px_G Γ G Q w nc ns pc (l0 :: l1 :: l2 :: l3 :: l4 :: l5 :: l6 :: r) (.ref x :: st) π := pg_astore_g X hd (by first | (simp; done) | (have h := (3 : Fin 4).isLt; simp only [List.length_cons]; omega)) k
theorem pg_astore7 (X : px_X Γ G cc own) {l0 l1 l2 l3 l4 l5 l6 l7 : Option Value} {r : List (Option Value)} {x : Nat} (hd : px_D cc pc (.astore 7) 2 q) (k : px_G Γ G Q w nc ns q (l0 :: l1 :: l2 :: l3 :: l4 :: l5 :: l6 :: some (.ref x) :: r) st π) : px_G Γ G Q w nc ns pc (l0 :: l1 :: l2 :: l3 :: l4 :: l5 :: l6 :: l7 :: r) (.ref x :: st) π := pg_astore_g X hd (by first | (simp; done) | (have h := (3 : Fin 4).isLt; simp only [List.length_cons]; omega)) k
theorem pg_astore8 (X : px_X Γ G cc own) {l0 l1 l2 l3 l4 l5 l6 l7 l8 : Option Value} {r : List (Option Value)} {x : Nat} (hd : px_D cc pc (.astore 8) 2 q) (k : px_G Γ G Q w nc ns q (l0 :: l1 :: l2 :: l3 :: l4 :: l5 :: l6 :: l7 :: some (.ref x) :: r) st π) : px_G Γ G Q w nc ns pc (l0 :: l1 :: l2 :: l3 :: l4 :: l5 :: l6 :: l7 :: l8 :: r) (.ref x :: st) π := pg_astore_g X hd (by first | (simp; done) | (have h := (3 : Fin 4).isLt; simp only [List.length_cons]; omega)) k
theorem pg_astore9 (X : px_X Γ G cc own) {l0 l1 l2 l3 l4 l5 l6 l7 l8 l9 : Option Value} {r : List (Option Value)} {x : Nat} (hd : px_D cc pc (.astore 9) 2 q) (k : px_G Γ G Q w nc ns q (l0 :: l1 :: l2 :: l3 :: l4 :: l5 :: l6 :: l7 :: l8 :: some (.ref x) :: r) st π) : px_G Γ G Q w nc ns pc (l0 :: l1 :: l2 :: l3 :: l4 :: l5 :: l6 :: l7 :: l8 :: l9 :: r) (.ref x :: st) π := pg_astore_g X hd (by first | (simp; done) | (have h := (3 : Fin 4).isLt; simp only [List.length_cons]; omega)) k
theorem pg_astore10 (X : px_X Γ G cc own) {l0 l1 l2 l3 l4 l5 l6 l7 l8 l9 l10 : Option Value} {r : List (Option Value)} {x : Nat} (hd : px_D cc pc (.astore 10) 2 q) (k : px_G Γ G Q w nc ns q (l0 :: l1 :: l2 :: l3 :: l4 :: l5 :: l6 :: l7 :: l8 :: l9 :: some (.ref x) :: r) st π) : px_G Γ G Q w nc ns pc (l0 :: l1 :: l2 :: l3 :: l4 :: l5 :: l6 :: l7 :: l8 :: l9 :: l10 :: r) (.ref x :: st) π := pg_astore_g X hd (by first | (simp; done) | (have h := (3 : Fin 4).isLt; simp only [List.length_cons]; omega)) k
theorem pg_astore11 (X : px_X Γ G cc own) {l0 l1 l2 l3 l4 l5 l6 l7 l8 l9 l10 l11 : Option Value} {r : List (Option Value)} {x : Nat} (hd : px_D cc pc (.astore 11) 2 q) (k : px_G Γ G Q w nc ns q (l0 :: l1 :: l2 :: l3 :: l4 :: l5 :: l6 :: l7 :: l8 :: l9 :: l10 :: some (.ref x) :: r) st π) : px_G Γ G Q w nc ns pc (l0 :: l1 :: l2 :: l3 :: l4 :: l5 :: l6 :: l7 :: l8 :: l9 :: l10 :: l11 :: r) (.ref x :: st) π := pg_astore_g X hd (by first | (simp; done) | (have h := (3 : Fin 4).isLt; simp only [List.length_cons]; omega)) k
theorem pg_astore12 (X : px_X Γ G cc own) {l0 l1 l2 l3 l4 l5 l6 l7 l8 l9 l10 l11 l12 : Option Value} {r : List (Option Value)} {x : Nat} (hd : px_D cc pc (.astore 12) 2 q) (k : px_G Γ G Q w nc ns q (l0 :: l1 :: l2 :: l3 :: l4 :: l5 :: l6 :: l7 :: l8 :: l9 :: l10 :: l11 :: some (.ref x) :: r) st π) : px_G Γ G Q w nc ns pc (l0 :: l1 :: l2 :: l3 :: l4 :: l5 :: l6 :: l7 :: l8 :: l9 :: l10 :: l11 :: l12 :: r) (.ref x :: st) π := pg_astore_g X hd (by first | (simp; done) | (have h := (3 : Fin 4).isLt; simp only [List.length_cons]; omega)) k
theorem pg_astore13 (X : px_X Γ G cc own) {l0 l1 l2 l3 l4 l5 l6 l7 l8 l9 l10 l11 l12 l13 : Option Value} {r : List (Option Value)} {x : Nat} (hd : px_D cc pc (.astore 13) 2 q) (k : px_G Γ G Q w nc ns q (l0 :: l1 :: l2 :: l3 :: l4 :: l5 :: l6 :: l7 :: l8 :: l9 :: l10 :: l11 :: l12 :: some (.ref x) :: r) st π) : px_G Γ G Q w nc ns pc (l0 :: l1 :: l2 :: l3 :: l4 :: l5 :: l6 :: l7 :: l8 :: l9 :: l10 :: l11 :: l12 :: l13 :: r) (.ref x :: st) π := pg_astore_g X hd (by first | (simp; done) | (have h := (3 : Fin 4).isLt; simp only [List.length_cons]; omega)) k
theorem pg_astore14 (X : px_X Γ G cc own) {l0 l1 l2 l3 l4 l5 l6 l7 l8 l9 l10 l11 l12 l13 l14 : Option Value} {r : List (Option Value)} {x : Nat} (hd : px_D cc pc (.astore 14) 2 q) (k : px_G Γ G Q w nc ns q (l0 :: l1 :: l2 :: l3 :: l4 :: l5 :: l6 :: l7 :: l8 :: l9 :: l10 :: l11 :: l12 :: l13 :: some (.ref x) :: r) st π) : px_G Γ G Q w nc ns pc (l0 :: l1 :: l2 :: l3 :: l4 :: l5 :: l6 :: l7 :: l8 :: l9 :: l10 :: l11 :: l12 :: l13 :: l14 :: r) (.ref x :: st) π := pg_astore_g X hd (by first | (simp; done) | (have h := (3 : Fin 4).isLt; simp only [List.length_cons]; omega)) k
theorem pg_astore15 (X : px_X Γ G cc own) {l0 l1 l2 l3 l4 l5 l6 l7 l8 l9 l10 l11 l12 l13 l14 l15 : Option Value} {r : List (Option Value)} {x : Nat} (hd : px_D cc pc (.astore 15) 2 q) (k : px_G Γ G Q w nc ns q (l0 :: l1 :: l2 :: l3 :: l4 :: l5 :: l6 :: l7 :: l8 :: l9 :: l10 :: l11 :: l12 :: l13 :: l14 :: some (.ref x) :: r) st π) : px_G Γ G Q w nc ns pc (l0 :: l1 :: l2 :: l3 :: l4 :: l5 :: l6 :: l7 :: l8 :: l9 :: l10 :: l11 :: l12 :: l13 :: l14 :: l15 :: r) (.ref x :: st) π := pg_astore_g X hd (by first | (simp; done) | (have h := (3 : Fin 4).isLt; simp only [List.length_cons]; omega)) k
theorem pg_astore16 (X : px_X Γ G cc own) {l0 l1 l2 l3 l4 l5 l6 l7 l8 l9 l10 l11 l12 l13 l14 l15 l16 : Option Value} {r : List (Option Value)} {x : Nat} (hd : px_D cc pc (.astore 16) 2 q) (k : px_G Γ G Q w nc ns q (l0 :: l1 :: l2 :: l3 :: l4 :: l5 :: l6 :: l7 :: l8 :: l9 :: l10 :: l11 :: l12 :: l13 :: l14 :: l15 :: some (.ref x) :: r) st π) : px_G Γ G Q w nc ns pc (l0 :: l1 :: l2 :: l3 :: l4 :: l5 :: l6 :: l7 :: l8 :: l9 :: l10 :: l11 :: l12 :: l13 :: l14 :: l15 :: l16 :: r) (.ref x :: st) π := pg_astore_g X hd (by first | (simp; done) | (have h := (3 : Fin 4).isLt; simp only [List.length_cons]; omega)) k
theorem pg_astore17 (X : px_X Γ G cc own) {l0 l1 l2 l3 l4 l5 l6 l7 l8 l9 l10 l11 l12 l13 l14 l15 l16 l17 : Option Value} {r : List (Option Value)} {x : Nat} (hd : px_D cc pc (.astore 17) 2 q) (k : px_G Γ G Q w nc ns q (l0 :: l1 :: l2 :: l3 :: l4 :: l5 :: l6 :: l7 :: l8 :: l9 :: l10 :: l11 :: l12 :: l13 :: l14 :: l15 :: l16 :: some (.ref x) :: r) st π) : px_G Γ G Q w nc ns pc (l0 :: l1 :: l2 :: l3 :: l4 :: l5 :: l6 :: l7 :: l8 :: l9 :: l10 :: l11 :: l12 :: l13 :: l14 :: l15 :: l16 :: l17 :: r) (.ref x :: st) π := pg_astore_g X hd (by first | (simp; done) | (have h := (3 : Fin 4).isLt; simp only [List.length_cons]; omega)) k
theorem pg_astore18 (X : px_X Γ G cc own) {l0 l1 l2 l3 l4 l5 l6 l7 l8 l9 l10 l11 l12 l13 l14 l15 l16 l17 l18 : Option Value} {r : List (Option Value)} {x : Nat} (hd : px_D cc pc (.astore 18) 2 q) (k : px_G Γ G Q w nc ns q (l0 :: l1 :: l2 :: l3 :: l4 :: l5 :: l6 :: l7 :: l8 :: l9 :: l10 :: l11 :: l12 :: l13 :: l14 :: l15 :: l16 :: l17 :: some (.ref x) :: r) st π) : px_G Γ G Q w nc ns pc (l0 :: l1 :: l2 :: l3 :: l4 :: l5 :: l6 :: l7 :: l8 :: l9 :: l10 :: l11 :: l12 :: l13 :: l14 :: l15 :: l16 :: l17 :: l18 :: r) (.ref x :: st) π := pg_astore_g X hd (by first | (simp; done) | (have h := (3 : Fin 4).isLt; simp only [List.length_cons]; omega)) k
theorem pg_astore19 (X : px_X Γ G cc own) {l0 l1 l2 l3 l4 l5 l6 l7 l8 l9 l10 l11 l12 l13 l14 l15 l16 l17 l18 l19 : Option Value} {r : List (Option Value)} {x : Nat} (hd : px_D cc pc (.astore 19) 2 q) (k : px_G Γ G Q w nc ns q (l0 :: l1 :: l2 :: l3 :: l4 :: l5 :: l6 :: l7 :: l8 :: l9 :: l10 :: l11 :: l12 :: l13 :: l14 :: l15 :: l16 :: l17 :: l18 :: some (.ref x) :: r) st π) : px_G Γ G Q w nc ns pc (l0 :: l1 :: l2 :: l3 :: l4 :: l5 :: l6 :: l7 :: l8 :: l9 :: l10 :: l11 :: l12 :: l13 :: l14 :: l15 :: l16 :: l17 :: l18 :: l19 :: r) (.ref x :: st) π := pg_astore_g X hd (by first | (simp; done) | (have h := (3 : Fin 4).isLt; simp only [List.length_cons]; omega)) k
theorem pg_iinc_g (X : px_X Γ G cc own) {i : Nat} {n : Int} {x : Int32} (hd : px_D cc pc (.iinc i n) 3 q) (hr : ls[i]? = some (some (.int x))) (k : px_G Γ G Q w nc ns q (ls.set i (some (.int (x + Int32.ofInt n)))) st π) : px_G Γ G Q w nc ns pc ls st π := by
  obtain ⟨hd, rfl⟩ := hd
  have hi : i < ls.length := (List.getElem?_eq_some_iff.mp hr).1
  intro H lsA locs hL hM hl
  obtain ⟨k0, hk0⟩ := List.getElem?_of_mem (px_lv_mem (q := (i, .int x)).mpr hr)
  exact lv_iinc X.1 X.2.1 hd hL.has hk0 rfl (by rw [← hL.2.2.1]; exact hi) rfl (fun ls' h => px_storeG hi rfl k hL hM hl h)
theorem pg_iinc0 (X : px_X Γ G cc own) {r : List (Option Value)} {n : Int} {x : Int32} (hd : px_D cc pc (.iinc 0 n) 3 q) (k : px_G Γ G Q w nc ns q (some (.int (x + Int32.ofInt n)) :: r) st π) : px_G Γ G Q w nc ns pc (some (.int x) :: r) st π := pg_iinc_g X hd rfl k
theorem pg_iinc1 (X : px_X Γ G cc own) {l0 : Option Value} {r : List (Option Value)} {n : Int} {x : Int32} (hd : px_D cc pc (.iinc 1 n) 3 q) (k : px_G Γ G Q w nc ns q (l0 :: some (.int (x + Int32.ofInt n)) :: r) st π) : px_G Γ G Q w nc ns pc (l0 :: some (.int x) :: r) st π := pg_iinc_g X hd rfl k
theorem pg_iinc2 (X : px_X Γ G cc own) {l0 l1 : Option Value} {r : List (Option Value)} {n : Int} {x : Int32} (hd : px_D cc pc (.iinc 2 n) 3 q) (k : px_G Γ G Q w nc ns q (l0 :: l1 :: some (.int (x + Int32.ofInt n)) :: r) st π) : px_G Γ G Q w nc ns pc (l0 :: l1 :: some (.int x) :: r) st π := pg_iinc_g X hd rfl k
theorem pg_iinc3 (X : px_X Γ G cc own) {l0 l1 l2 : Option Value} {r : List (Option Value)} {n : Int} {x : Int32} (hd : px_D cc pc (.iinc 3 n) 3 q) (k : px_G Γ G Q w nc ns q (l0 :: l1 :: l2 :: some (.int (x + Int32.ofInt n)) :: r) st π) : px_G Γ G Q w nc ns pc (l0 :: l1 :: l2 :: some (.int x) :: r) st π := pg_iinc_g X hd rfl k
theorem pg_iinc4 (X : px_X Γ G cc own) {l0 l1 l2 l3 : Option Value} {r : List (Option Value)} {n : Int} {x : Int32} (hd : px_D cc pc (.iinc 4 n) 3 q) (k : px_G Γ G Q w nc ns q (l0 :: l1 :: l2 :: l3 :: some (.int (x + Int32.ofInt n)) :: r) st π) : px_G Γ G Q w nc ns pc (l0 :: l1 :: l2 :: l3 :: some (.int x) :: r) st π := pg_iinc_g X hd rfl k
theorem pg_iinc5 (X : px_X Γ G cc own) {l0 l1 l2 l3 l4 : Option Value} {r : List (Option Value)} {n : Int} {x : Int32} (hd : px_D cc pc (.iinc 5 n) 3 q) (k : px_G Γ G Q w nc ns q (l0 :: l1 :: l2 :: l3 :: l4 :: some (.int (x + Int32.ofInt n)) :: r) st π) : px_G Γ G Q w nc ns pc (l0 :: l1 :: l2 :: l3 :: l4 :: some (.int x) :: r) st π := pg_iinc_g X hd rfl k
theorem pg_iinc6 (X : px_X Γ G cc own) {l0 l1 l2 l3 l4 l5 : Option Value} {r : List (Option Value)} {n : Int} {x : Int32} (hd : px_D cc pc (.iinc 6 n) 3 q) (k : px_G Γ G Q w nc ns q (l0 :: l1 :: l2 :: l3 :: l4 :: l5 :: some (.int (x + Int32.ofInt n)) :: r) st π) : px_G Γ G Q w nc ns pc (l0 :: l1 :: l2 :: l3 :: l4 :: l5 :: some (.int x) :: r) st π := pg_iinc_g X hd rfl k
theorem pg_iinc7 (X : px_X Γ G cc own) {l0 l1 l2 l3 l4 l5 l6 : Option Value} {r : List (Option Value)} {n : Int} {x : Int32} (hd : px_D cc pc (.iinc 7 n) 3 q) (k : px_G Γ G Q w nc ns q (l0 :: l1 :: l2 :: l3 :: l4 :: l5 :: l6 :: some (.int (x + Int32.ofInt n)) :: r) st π) : px_G Γ G Q w nc ns pc (l0 :: l1 :: l2 :: l3 :: l4 :: l5 :: l6 :: some (.int x) :: r) st π := pg_iinc_g X hd rfl k
theorem pg_iinc8 (X : px_X Γ G cc own) {l0 l1 l2 l3 l4 l5 l6 l7 : Option Value} {r : List (Option Value)} {n : Int} {x : Int32} (hd : px_D cc pc (.iinc 8 n) 3 q) (k : px_G Γ G Q w nc ns q (l0 :: l1 :: l2 :: l3 :: l4 :: l5 :: l6 :: l7 :: some (.int (x + Int32.ofInt n)) :: r) st π) : px_G Γ G Q w nc ns pc (l0 :: l1 :: l2 :: l3 :: l4 :: l5 :: l6 :: l7 :: some (.int x) :: r) st π := pg_iinc_g X hd rfl k
theorem pg_iinc9 (X : px_X Γ G cc own) {l0 l1 l2 l3 l4 l5 l6 l7 l8 : Option Value} {r : List (Option Value)} {n : Int} {x : Int32} (hd : px_D cc pc (.iinc 9 n) 3 q) (k : px_G Γ G Q w nc ns q (l0 :: l1 :: l2 :: l3 :: l4 :: l5 :: l6 :: l7 :: l8 :: some (.int (x + Int32.ofInt n)) :: r) st π) : px_G Γ G Q w nc ns pc (l0 :: l1 :: l2 :: l3 :: l4 :: l5 :: l6 :: l7 :: l8 :: some (.int x) :: r) st π := pg_iinc_g X hd rfl k
theorem pg_iinc10 (X : px_X Γ G cc own) {l0 l1 l2 l3 l4 l5 l6 l7 l8 l9 : Option Value} {r : List (Option Value)} {n : Int} {x : Int32} (hd : px_D cc pc (.iinc 10 n) 3 q) (k : px_G Γ G Q w nc ns q (l0 :: l1 :: l2 :: l3 :: l4 :: l5 :: l6 :: l7 :: l8 :: l9 :: some (.int (x + Int32.ofInt n)) :: r) st π) : px_G Γ G Q w nc ns pc (l0 :: l1 :: l2 :: l3 :: l4 :: l5 :: l6 :: l7 :: l8 :: l9 :: some (.int x) :: r) st π := pg_iinc_g X hd rfl k
theorem pg_iinc11 (X : px_X Γ G cc own) {l0 l1 l2 l3 l4 l5 l6 l7 l8 l9 l10 : Option Value} {r : List (Option Value)} {n : Int} {x : Int32} (hd : px_D cc pc (.iinc 11 n) 3 q) (k : px_G Γ G Q w nc ns q (l0 :: l1 :: l2 :: l3 :: l4 :: l5 :: l6 :: l7 :: l8 :: l9 :: l10 :: some (.int (x + Int32.ofInt n)) :: r) st π) : px_G Γ G Q w nc ns pc (l0 :: l1 :: l2 :: l3 :: l4 :: l5 :: l6 :: l7 :: l8 :: l9 :: l10 :: some (.int x) :: r) st π := pg_iinc_g X hd rfl k
theorem pg_iinc12 (X : px_X Γ G cc own) {l0 l1 l2 l3 l4 l5 l6 l7 l8 l9 l10 l11 : Option Value} {r : List (Option Value)} {n : Int} {x : Int32} (hd : px_D cc pc (.iinc 12 n) 3 q) (k : px_G Γ G Q w nc ns q (l0 :: l1 :: l2 :: l3 :: l4 :: l5 :: l6 :: l7 :: l8 :: l9 :: l10 :: l11 :: some (.int (x + Int32.ofInt n)) :: r) st π) : px_G Γ G Q w nc ns pc (l0 :: l1 :: l2 :: l3 :: l4 :: l5 :: l6 :: l7 :: l8 :: l9 :: l10 :: l11 :: some (.int x) :: r) st π := pg_iinc_g X hd rfl k
theorem pg_iinc13 (X : px_X Γ G cc own) {l0 l1 l2 l3 l4 l5 l6 l7 l8 l9 l10 l11 l12 : Option Value} {r : List (Option Value)} {n : Int} {x : Int32} (hd : px_D cc pc (.iinc 13 n) 3 q) (k : px_G Γ G Q w nc ns q (l0 :: l1 :: l2 :: l3 :: l4 :: l5 :: l6 :: l7 :: l8 :: l9 :: l10 :: l11 :: l12 :: some (.int (x + Int32.ofInt n)) :: r) st π) : px_G Γ G Q w nc ns pc (l0 :: l1 :: l2 :: l3 :: l4 :: l5 :: l6 :: l7 :: l8 :: l9 :: l10 :: l11 :: l12 :: some (.int x) :: r) st π := pg_iinc_g X hd rfl k
theorem pg_iinc14 (X : px_X Γ G cc own) {l0 l1 l2 l3 l4 l5 l6 l7 l8 l9 l10 l11 l12 l13 : Option Value} {r : List (Option Value)} {n : Int} {x : Int32} (hd : px_D cc pc (.iinc 14 n) 3 q) (k : px_G Γ G Q w nc ns q (l0 :: l1 :: l2 :: l3 :: l4 :: l5 :: l6 :: l7 :: l8 :: l9 :: l10 :: l11 :: l12 :: l13 :: some (.int (x + Int32.ofInt n)) :: r) st π) : px_G Γ G Q w nc ns pc (l0 :: l1 :: l2 :: l3 :: l4 :: l5 :: l6 :: l7 :: l8 :: l9 :: l10 :: l11 :: l12 :: l13 :: some (.int x) :: r) st π := pg_iinc_g X hd rfl k
theorem pg_iinc15 (X : px_X Γ G cc own) {l0 l1 l2 l3 l4 l5 l6 l7 l8 l9 l10 l11 l12 l13 l14 : Option Value} {r : List (Option Value)} {n : Int} {x : Int32} (hd : px_D cc pc (.iinc 15 n) 3 q) (k : px_G Γ G Q w nc ns q (l0 :: l1 :: l2 :: l3 :: l4 :: l5 :: l6 :: l7 :: l8 :: l9 :: l10 :: l11 :: l12 :: l13 :: l14 :: some (.int (x + Int32.ofInt n)) :: r) st π) : px_G Γ G Q w nc ns pc (l0 :: l1 :: l2 :: l3 :: l4 :: l5 :: l6 :: l7 :: l8 :: l9 :: l10 :: l11 :: l12 :: l13 :: l14 :: some (.int x) :: r) st π := pg_iinc_g X hd rfl k
theorem pg_iinc16 (X : px_X Γ G cc own) {l0 l1 l2 l3 l4 l5 l6 l7 l8 l9 l10 l11 l12 l13 l14 l15 : Option Value} {r : List (Option Value)} {n : Int} {x : Int32} (hd : px_D cc pc (.iinc 16 n) 3 q) (k : px_G Γ G Q w nc ns q (l0 :: l1 :: l2 :: l3 :: l4 :: l5 :: l6 :: l7 :: l8 :: l9 :: l10 :: l11 :: l12 :: l13 :: l14 :: l15 :: some (.int (x + Int32.ofInt n)) :: r) st π) : px_G Γ G Q w nc ns pc (l0 :: l1 :: l2 :: l3 :: l4 :: l5 :: l6 :: l7 :: l8 :: l9 :: l10 :: l11 :: l12 :: l13 :: l14 :: l15 :: some (.int x) :: r) st π := pg_iinc_g X hd rfl k
theorem pg_iinc17 (X : px_X Γ G cc own) {l0 l1 l2 l3 l4 l5 l6 l7 l8 l9 l10 l11 l12 l13 l14 l15 l16 : Option Value} {r : List (Option Value)} {n : Int} {x : Int32} (hd : px_D cc pc (.iinc 17 n) 3 q) (k : px_G Γ G Q w nc ns q (l0 :: l1 :: l2 :: l3 :: l4 :: l5 :: l6 :: l7 :: l8 :: l9 :: l10 :: l11 :: l12 :: l13 :: l14 :: l15 :: l16 :: some (.int (x + Int32.ofInt n)) :: r) st π) : px_G Γ G Q w nc ns pc (l0 :: l1 :: l2 :: l3 :: l4 :: l5 :: l6 :: l7 :: l8 :: l9 :: l10 :: l11 :: l12 :: l13 :: l14 :: l15 :: l16 :: some (.int x) :: r) st π := pg_iinc_g X hd rfl k
theorem pg_iinc18 (X : px_X Γ G cc own) {l0 l1 l2 l3 l4 l5 l6 l7 l8 l9 l10 l11 l12 l13 l14 l15 l16 l17 : Option Value} {r : List (Option Value)} {n : Int} {x : Int32} (hd : px_D cc pc (.iinc 18 n) 3 q) (k : px_G Γ G Q w nc ns q (l0 :: l1 :: l2 :: l3 :: l4 :: l5 :: l6 :: l7 :: l8 :: l9 :: l10 :: l11 :: l12 :: l13 :: l14 :: l15 :: l16 :: l17 :: some (.int (x + Int32.ofInt n)) :: r) st π) : px_G Γ G Q w nc ns pc (l0 :: l1 :: l2 :: l3 :: l4 :: l5 :: l6 :: l7 :: l8 :: l9 :: l10 :: l11 :: l12 :: l13 :: l14 :: l15 :: l16 :: l17 :: some (.int x) :: r) st π := pg_iinc_g X hd rfl k
theorem pg_iinc19 (X : px_X Γ G cc own) {l0 l1 l2 l3 l4 l5 l6 l7 l8 l9 l10 l11 l12 l13 l14 l15 l16 l17 l18 : Option Value} {r : List (Option Value)} {n : Int} {x : Int32} (hd : px_D cc pc (.iinc 19 n) 3 q) (k : px_G Γ G Q w nc ns q (l0 :: l1 :: l2 :: l3 :: l4 :: l5 :: l6 :: l7 :: l8 :: l9 :: l10 :: l11 :: l12 :: l13 :: l14 :: l15 :: l16 :: l17 :: l18 :: some (.int (x + Int32.ofInt n)) :: r) st π) : px_G Γ G Q w nc ns pc (l0 :: l1 :: l2 :: l3 :: l4 :: l5 :: l6 :: l7 :: l8 :: l9 :: l10 :: l11 :: l12 :: l13 :: l14 :: l15 :: l16 :: l17 :: l18 :: some (.int x) :: r) st π := pg_iinc_g X hd rfl k
theorem pg_if_eq (X : px_X Γ G cc own) {x : Int32} {off : Int} {tgt : Nat} (hd : px_J cc pc (.ifCond .eq off) 3 q off tgt) (kt : x = 0 → px_G Γ G Q w nc ns tgt ls st π) (kf : ¬ (x = 0) → px_G Γ G Q w nc ns q ls st π) : px_G Γ G Q w nc ns pc ls (.int x :: st) π := by
  obtain ⟨hd, rfl, ht⟩ := hd
  exact fun H lsA locs hL hM hl => lv_if_eq X.1 X.2.1 hd ht (fun h => kt h H lsA locs hL hM hl) (fun h => kf h H lsA locs hL hM hl)
theorem pg_icmp_eq (X : px_X Γ G cc own) {x y : Int32} {off : Int} {tgt : Nat} (hd : px_J cc pc (.if_icmp .eq off) 3 q off tgt) (kt : x = y → px_G Γ G Q w nc ns tgt ls st π) (kf : ¬ (x = y) → px_G Γ G Q w nc ns q ls st π) : px_G Γ G Q w nc ns pc ls (.int y :: .int x :: st) π := by
  obtain ⟨hd, rfl, ht⟩ := hd
  exact fun H lsA locs hL hM hl => lv_icmp_eq X.1 X.2.1 hd ht (fun h => kt h H lsA locs hL hM hl) (fun h => kf h H lsA locs hL hM hl)
theorem pg_if_ne (X : px_X Γ G cc own) {x : Int32} {off : Int} {tgt : Nat} (hd : px_J cc pc (.ifCond .ne off) 3 q off tgt) (kt : ¬ x = 0 → px_G Γ G Q w nc ns tgt ls st π) (kf : x = 0 → px_G Γ G Q w nc ns q ls st π) : px_G Γ G Q w nc ns pc ls (.int x :: st) π := by
  obtain ⟨hd, rfl, ht⟩ := hd
  exact fun H lsA locs hL hM hl => lv_if_ne X.1 X.2.1 hd ht (fun h => kt h H lsA locs hL hM hl) (fun h => kf h H lsA locs hL hM hl)
theorem pg_icmp_ne (X : px_X Γ G cc own) {x y : Int32} {off : Int} {tgt : Nat} (hd : px_J cc pc (.if_icmp .ne off) 3 q off tgt) (kt : ¬ x = y → px_G Γ G Q w nc ns tgt ls st π) (kf : x = y → px_G Γ G Q w nc ns q ls st π) : px_G Γ G Q w nc ns pc ls (.int y :: .int x :: st) π := by
  obtain ⟨hd, rfl, ht⟩ := hd
  exact fun H lsA locs hL hM hl => lv_icmp_ne X.1 X.2.1 hd ht (fun h => kt h H lsA locs hL hM hl) (fun h => kf h H lsA locs hL hM hl)
theorem pg_if_lt (X : px_X Γ G cc own) {x : Int32} {off : Int} {tgt : Nat} (hd : px_J cc pc (.ifCond .lt off) 3 q off tgt) (kt : x < 0 → px_G Γ G Q w nc ns tgt ls st π) (kf : ¬ (x < 0) → px_G Γ G Q w nc ns q ls st π) : px_G Γ G Q w nc ns pc ls (.int x :: st) π := by
  obtain ⟨hd, rfl, ht⟩ := hd
  exact fun H lsA locs hL hM hl => lv_if_lt X.1 X.2.1 hd ht (fun h => kt h H lsA locs hL hM hl) (fun h => kf h H lsA locs hL hM hl)
theorem pg_icmp_lt (X : px_X Γ G cc own) {x y : Int32} {off : Int} {tgt : Nat} (hd : px_J cc pc (.if_icmp .lt off) 3 q off tgt) (kt : x < y → px_G Γ G Q w nc ns tgt ls st π) (kf : ¬ (x < y) → px_G Γ G Q w nc ns q ls st π) : px_G Γ G Q w nc ns pc ls (.int y :: .int x :: st) π := by
  obtain ⟨hd, rfl, ht⟩ := hd
  exact fun H lsA locs hL hM hl => lv_icmp_lt X.1 X.2.1 hd ht (fun h => kt h H lsA locs hL hM hl) (fun h => kf h H lsA locs hL hM hl)
theorem pg_if_ge (X : px_X Γ G cc own) {x : Int32} {off : Int} {tgt : Nat} (hd : px_J cc pc (.ifCond .ge off) 3 q off tgt) (kt : 0 ≤ x → px_G Γ G Q w nc ns tgt ls st π) (kf : ¬ (0 ≤ x) → px_G Γ G Q w nc ns q ls st π) : px_G Γ G Q w nc ns pc ls (.int x :: st) π := by
  obtain ⟨hd, rfl, ht⟩ := hd
  exact fun H lsA locs hL hM hl => lv_if_ge X.1 X.2.1 hd ht (fun h => kt h H lsA locs hL hM hl) (fun h => kf h H lsA locs hL hM hl)
theorem pg_icmp_ge (X : px_X Γ G cc own) {x y : Int32} {off : Int} {tgt : Nat} (hd : px_J cc pc (.if_icmp .ge off) 3 q off tgt) (kt : y ≤ x → px_G Γ G Q w nc ns tgt ls st π) (kf : ¬ (y ≤ x) → px_G Γ G Q w nc ns q ls st π) : px_G Γ G Q w nc ns pc ls (.int y :: .int x :: st) π := by
  obtain ⟨hd, rfl, ht⟩ := hd
  exact fun H lsA locs hL hM hl => lv_icmp_ge X.1 X.2.1 hd ht (fun h => kt h H lsA locs hL hM hl) (fun h => kf h H lsA locs hL hM hl)
theorem pg_if_gt (X : px_X Γ G cc own) {x : Int32} {off : Int} {tgt : Nat} (hd : px_J cc pc (.ifCond .gt off) 3 q off tgt) (kt : 0 < x → px_G Γ G Q w nc ns tgt ls st π) (kf : ¬ (0 < x) → px_G Γ G Q w nc ns q ls st π) : px_G Γ G Q w nc ns pc ls (.int x :: st) π := by
  obtain ⟨hd, rfl, ht⟩ := hd
  exact fun H lsA locs hL hM hl => lv_if_gt X.1 X.2.1 hd ht (fun h => kt h H lsA locs hL hM hl) (fun h => kf h H lsA locs hL hM hl)
theorem pg_icmp_gt (X : px_X Γ G cc own) {x y : Int32} {off : Int} {tgt : Nat} (hd : px_J cc pc (.if_icmp .gt off) 3 q off tgt) (kt : y < x → px_G Γ G Q w nc ns tgt ls st π) (kf : ¬ (y < x) → px_G Γ G Q w nc ns q ls st π) : px_G Γ G Q w nc ns pc ls (.int y :: .int x :: st) π := by
  obtain ⟨hd, rfl, ht⟩ := hd
  exact fun H lsA locs hL hM hl => lv_icmp_gt X.1 X.2.1 hd ht (fun h => kt h H lsA locs hL hM hl) (fun h => kf h H lsA locs hL hM hl)
theorem pg_if_le (X : px_X Γ G cc own) {x : Int32} {off : Int} {tgt : Nat} (hd : px_J cc pc (.ifCond .le off) 3 q off tgt) (kt : x ≤ 0 → px_G Γ G Q w nc ns tgt ls st π) (kf : ¬ (x ≤ 0) → px_G Γ G Q w nc ns q ls st π) : px_G Γ G Q w nc ns pc ls (.int x :: st) π := by
  obtain ⟨hd, rfl, ht⟩ := hd
  exact fun H lsA locs hL hM hl => lv_if_le X.1 X.2.1 hd ht (fun h => kt h H lsA locs hL hM hl) (fun h => kf h H lsA locs hL hM hl)
theorem pg_icmp_le (X : px_X Γ G cc own) {x y : Int32} {off : Int} {tgt : Nat} (hd : px_J cc pc (.if_icmp .le off) 3 q off tgt) (kt : x ≤ y → px_G Γ G Q w nc ns tgt ls st π) (kf : ¬ (x ≤ y) → px_G Γ G Q w nc ns q ls st π) : px_G Γ G Q w nc ns pc ls (.int y :: .int x :: st) π := by
  obtain ⟨hd, rfl, ht⟩ := hd
  exact fun H lsA locs hL hM hl => lv_icmp_le X.1 X.2.1 hd ht (fun h => kt h H lsA locs hL hM hl) (fun h => kf h H lsA locs hL hM hl)
theorem pg_goto (X : px_X Γ G cc own) {off : Int} {tgt : Nat} (hd : px_J cc pc (.goto off) 3 q off tgt) (k : px_G Γ G Q w nc ns tgt ls st π) : px_G Γ G Q w nc ns pc ls st π := by
  obtain ⟨hd, rfl, ht⟩ := hd
  exact fun H lsA locs hL hM hl => lv_goto X.1 X.2.1 hd ht (k H lsA locs hL hM hl)
theorem pg_widen {k n : Nat} (h1 : nc ≤ k) (h2 : ns ≤ n) (kk : px_G Γ G Q w k n pc ls st π) : px_G Γ G Q w nc ns pc ls st π := fun H lsA locs hL hM hl => W.widen h1 h2 (kk H lsA locs hL hM hl)
theorem pg_w (kk : px_G Γ G Q true nc ns pc ls st π) : px_G Γ G Q w nc ns pc ls st π := fun H lsA locs hL hM hl => kk H lsA locs hL hM (fun q hq => ⟨rfl, (hl q hq).2⟩)
end PGR
