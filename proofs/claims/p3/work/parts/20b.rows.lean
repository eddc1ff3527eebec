/-! ROWS OF JF -/
/-- a contract out of a function -/
def cF {R : Type} (w : Bool) (ι : R → Option Value) (M : jM) (d : Nat) (args : List Value) (m : mM) (e : fR R) : Prop := ∀ r m', e = some (r, m') → jCt M d 0 0 args (mH w m) (fun r1 h1 => r1 = ι r ∧ h1 = mH w m')
/-- behind a call -/
def bnd {R R' : Type} (f : fR R') (k : R' → mM → fR R) : fR R := match f with
  | some (r, m) => k r m
  | none => none
theorem bnd_ok {R R' : Type} {f : fR R'} {k : R' → mM → fR R} {r : R} {m' : mM} (h : bnd f k = some (r, m')) : ∃ r1 m1, f = some (r1, m1) ∧ k r1 m1 = some (r, m') := by
  unfold bnd at h
  split at h
  · rename_i r1 m1
    exact ⟨r1, m1, rfl, h⟩
  · cases h
section FROWS
variable {R R' : Type} {w : Bool} {ι : R → Option Value} {ι' : R' → Option Value} {M M' : jM} {d d' pc tgt : Nat} {lv lv' : jLv} {st : List Value} {m : mM} {e e1 e2 : fR R}
theorem F_no : JF w ι M d pc lv st m none := fun r h' he => by cases he
theorem F_loc (hs : ∀ q ∈ lv', q ∈ lv) (K : JF w ι M d pc lv' st m e) : JF w ι M d pc lv st m e := fun r h' he => J.locals hs (K r h' he)
theorem F_nm {x : Int32} {k : Int32 → fR R} (K : ∀ v, JF w ι M d pc lv (.int v :: st) m (k v)) : JF w ι M d pc lv (.int x :: st) m (nmI x k) := K x
theorem F_ch {ci r : Nat} {k : Nat → fR R} (K : ∀ r', isC w ci r' = true → JF w ι M d pc lv (.ref r' :: st) m (k r')) : JF w ι M d pc lv (.ref r :: st) m (chR w ci r k) := fun r1 m1 he => by
  unfold chR at he
  split at he
  · rename_i hc
    exact K r hc r1 m1 he
  · cases he
theorem F_iconst {n : Int} {v : Int32} (hv : Int32.ofInt n = v) (hd : decode M.2.2.1 pc = .ok (.iconst n, 1)) (K : JF w ι M d (pc + 1) lv (.int v :: st) m e) : JF w ι M d pc lv (st) m e := fun r h' he => J_iconst hv hd (K r h' he)
theorem F_bipush {n : Int} {v : Int32} (hv : (Int8.ofInt n).toInt32 = v) (hd : decode M.2.2.1 pc = .ok (.bipush n, 2)) (K : JF w ι M d (pc + 2) lv (.int v :: st) m e) : JF w ι M d pc lv (st) m e := fun r h' he => J_bipush hv hd (K r h' he)
theorem F_sipush {n : Int} {v : Int32} (hv : (Int16.ofInt n).toInt32 = v) (hd : decode M.2.2.1 pc = .ok (.sipush n, 3)) (K : JF w ι M d (pc + 3) lv (.int v :: st) m e) : JF w ι M d pc lv (st) m e := fun r h' he => J_sipush hv hd (K r h' he)
theorem F_lconst {n : Fin 2} {v : Int64} (hv : Int64.ofNat (n : Nat) = v) (hd : decode M.2.2.1 pc = .ok (.lconst n, 1)) (K : JF w ι M d (pc + 1) lv (.long v :: st) m e) : JF w ι M d pc lv (st) m e := fun r h' he => J_lconst hv hd (K r h' he)
theorem F_iadd {x y : Int32} (hd : decode M.2.2.1 pc = .ok (.iadd, 1)) (K : JF w ι M d (pc + 1) lv (.int (x + y) :: st) m e) : JF w ι M d pc lv (.int y :: .int x :: st) m e := fun r h' he => J_iadd hd (K r h' he)
theorem F_isub {x y : Int32} (hd : decode M.2.2.1 pc = .ok (.isub, 1)) (K : JF w ι M d (pc + 1) lv (.int (x - y) :: st) m e) : JF w ι M d pc lv (.int y :: .int x :: st) m e := fun r h' he => J_isub hd (K r h' he)
theorem F_imul {x y : Int32} (hd : decode M.2.2.1 pc = .ok (.imul, 1)) (K : JF w ι M d (pc + 1) lv (.int (x * y) :: st) m e) : JF w ι M d pc lv (.int y :: .int x :: st) m e := fun r h' he => J_imul hd (K r h' he)
theorem F_iand {x y : Int32} (hd : decode M.2.2.1 pc = .ok (.iand, 1)) (K : JF w ι M d (pc + 1) lv (.int (x &&& y) :: st) m e) : JF w ι M d pc lv (.int y :: .int x :: st) m e := fun r h' he => J_iand hd (K r h' he)
theorem F_ior {x y : Int32} (hd : decode M.2.2.1 pc = .ok (.ior, 1)) (K : JF w ι M d (pc + 1) lv (.int (x ||| y) :: st) m e) : JF w ι M d pc lv (.int y :: .int x :: st) m e := fun r h' he => J_ior hd (K r h' he)
theorem F_ixor {x y : Int32} (hd : decode M.2.2.1 pc = .ok (.ixor, 1)) (K : JF w ι M d (pc + 1) lv (.int (x ^^^ y) :: st) m e) : JF w ι M d pc lv (.int y :: .int x :: st) m e := fun r h' he => J_ixor hd (K r h' he)
theorem F_ishl {x y : Int32} (hd : decode M.2.2.1 pc = .ok (.ishl, 1)) (K : JF w ι M d (pc + 1) lv (.int (x <<< (y &&& 31)) :: st) m e) : JF w ι M d pc lv (.int y :: .int x :: st) m e := fun r h' he => J_ishl hd (K r h' he)
theorem F_ishr {x y : Int32} (hd : decode M.2.2.1 pc = .ok (.ishr, 1)) (K : JF w ι M d (pc + 1) lv (.int (x >>> (y &&& 31)) :: st) m e) : JF w ι M d pc lv (.int y :: .int x :: st) m e := fun r h' he => J_ishr hd (K r h' he)
theorem F_iushr {x y : Int32} (hd : decode M.2.2.1 pc = .ok (.iushr, 1)) (K : JF w ι M d (pc + 1) lv (.int ((x.toUInt32 >>> (y.toUInt32 &&& Int32.toUInt32 31)).toInt32) :: st) m e) : JF w ι M d pc lv (.int y :: .int x :: st) m e := fun r h' he => J_iushr rfl hd (K r h' he)
theorem F_ineg {x : Int32} (hd : decode M.2.2.1 pc = .ok (.ineg, 1)) (K : JF w ι M d (pc + 1) lv (.int (-x) :: st) m e) : JF w ι M d pc lv (.int x :: st) m e := fun r h' he => J_ineg hd (K r h' he)
theorem F_land {x y : Int64} (hd : decode M.2.2.1 pc = .ok (.land, 1)) (K : JF w ι M d (pc + 1) lv (.long (x &&& y) :: st) m e) : JF w ι M d pc lv (.long y :: .long x :: st) m e := fun r h' he => J_land hd (K r h' he)
theorem F_lor {x y : Int64} (hd : decode M.2.2.1 pc = .ok (.lor, 1)) (K : JF w ι M d (pc + 1) lv (.long (x ||| y) :: st) m e) : JF w ι M d pc lv (.long y :: .long x :: st) m e := fun r h' he => J_lor hd (K r h' he)
theorem F_lshl {x : Int64} {y : Int32} (hd : decode M.2.2.1 pc = .ok (.lshl, 1)) (K : JF w ι M d (pc + 1) lv (.long (x <<< (y.toInt64 &&& 63)) :: st) m e) : JF w ι M d pc lv (.int y :: .long x :: st) m e := fun r h' he => J_lshl rfl hd (K r h' he)
theorem F_lcmp {x y : Int64} (hd : decode M.2.2.1 pc = .ok (.lcmp, 1)) (K : JF w ι M d (pc + 1) lv (.int (lg_cmp x y) :: st) m e) : JF w ι M d pc lv (.long y :: .long x :: st) m e := fun r h' he => J_lcmp hd (K r h' he)
theorem F_i2l {x : Int32} (hd : decode M.2.2.1 pc = .ok (.i2l, 1)) (K : JF w ι M d (pc + 1) lv (.long x.toInt64 :: st) m e) : JF w ι M d pc lv (.int x :: st) m e := fun r h' he => J_i2l hd (K r h' he)
theorem F_l2i {x : Int64} (hd : decode M.2.2.1 pc = .ok (.l2i, 1)) (K : JF w ι M d (pc + 1) lv (.int x.toInt32 :: st) m e) : JF w ι M d pc lv (.long x :: st) m e := fun r h' he => J_l2i hd (K r h' he)
theorem F_i2b {x : Int32} (hd : decode M.2.2.1 pc = .ok (.i2b, 1)) (K : JF w ι M d (pc + 1) lv (.int x.toInt8.toInt32 :: st) m e) : JF w ι M d pc lv (.int x :: st) m e := fun r h' he => J_i2b hd (K r h' he)
theorem F_i2s {x : Int32} (hd : decode M.2.2.1 pc = .ok (.i2s, 1)) (K : JF w ι M d (pc + 1) lv (.int x.toInt16.toInt32 :: st) m e) : JF w ι M d pc lv (.int x :: st) m e := fun r h' he => J_i2s hd (K r h' he)
theorem F_dup {v : Value} (hc : v.category = 1) (hd : decode M.2.2.1 pc = .ok (.dup, 1)) (K : JF w ι M d (pc + 1) lv (v :: v :: st) m e) : JF w ι M d pc lv (v :: st) m e := fun r h' he => J_dup hc hd (K r h' he)
theorem F_pop {v : Value} (hc : v.category = 1) (hd : decode M.2.2.1 pc = .ok (.pop, 1)) (K : JF w ι M d (pc + 1) lv (st) m e) : JF w ι M d pc lv (v :: st) m e := fun r h' he => J_pop hc hd (K r h' he)
theorem F_dup2 {v v2 : Value} (hc : v.category = 1) (hw : v2.category = 1) (hd : decode M.2.2.1 pc = .ok (.dup2, 1)) (K : JF w ι M d (pc + 1) lv (v :: v2 :: v :: v2 :: st) m e) : JF w ι M d pc lv (v :: v2 :: st) m e := fun r h' he => J_dup2 hc hw hd (K r h' he)
theorem F_ldc {i : Nat} {v : Int32} (hw : Cond.constant M.2.1.cls i v ∈ jG) (hd : decode M.2.2.1 pc = .ok (.ldc i, 2)) (K : JF w ι M d (pc + 2) lv (.int v :: st) m e) : JF w ι M d pc lv (st) m e := fun r h' he => J_ldc hw hd (K r h' he)
theorem F_ldcw {i : Nat} {v : Int32} (hw : Cond.constant M.2.1.cls i v ∈ jG) (hd : decode M.2.2.1 pc = .ok (.ldc_w i, 3)) (K : JF w ι M d (pc + 3) lv (.int v :: st) m e) : JF w ι M d pc lv (st) m e := fun r h' he => J_ldcw hw hd (K r h' he)
theorem F_ldc2 {i : Nat} {v : Int64} (hw : Cond.constantLong M.2.1.cls i v ∈ jG) (hd : decode M.2.2.1 pc = .ok (.ldc2_w i, 3)) (K : JF w ι M d (pc + 3) lv (.long v :: st) m e) : JF w ι M d pc lv (st) m e := fun r h' he => J_ldc2 hw hd (K r h' he)
theorem F_iload_n {i : Nat} {a : Fin 4} {x : Int32} (hi : (a : Nat) = i) (hg : jget lv i = some (.int x)) (hd : decode M.2.2.1 pc = .ok (.iload_n a, 1)) (K : JF w ι M d (pc + 1) lv (.int x :: st) m e) : JF w ι M d pc lv (st) m e := fun r h' he => J_iload_n hi hg hd (K r h' he)
theorem F_iload {i : Nat} {x : Int32} (hg : jget lv i = some (.int x)) (hd : decode M.2.2.1 pc = .ok (.iload i, 2)) (K : JF w ι M d (pc + 2) lv (.int x :: st) m e) : JF w ι M d pc lv (st) m e := fun r h' he => J_iload hg hd (K r h' he)
theorem F_lload_n {i : Nat} {a : Fin 4} {x : Int64} (hi : (a : Nat) = i) (hg : jget lv i = some (.long x)) (hd : decode M.2.2.1 pc = .ok (.lload_n a, 1)) (K : JF w ι M d (pc + 1) lv (.long x :: st) m e) : JF w ι M d pc lv (st) m e := fun r h' he => J_lload_n hi hg hd (K r h' he)
theorem F_lload {i : Nat} {x : Int64} (hg : jget lv i = some (.long x)) (hd : decode M.2.2.1 pc = .ok (.lload i, 2)) (K : JF w ι M d (pc + 2) lv (.long x :: st) m e) : JF w ι M d pc lv (st) m e := fun r h' he => J_lload hg hd (K r h' he)
theorem F_aload_n {i : Nat} {a : Fin 4} {x : Nat} (hi : (a : Nat) = i) (hg : jget lv i = some (.ref x)) (hd : decode M.2.2.1 pc = .ok (.aload_n a, 1)) (K : JF w ι M d (pc + 1) lv (.ref x :: st) m e) : JF w ι M d pc lv (st) m e := fun r h' he => J_aload_n hi hg hd (K r h' he)
theorem F_aload {i : Nat} {x : Nat} (hg : jget lv i = some (.ref x)) (hd : decode M.2.2.1 pc = .ok (.aload i, 2)) (K : JF w ι M d (pc + 2) lv (.ref x :: st) m e) : JF w ι M d pc lv (st) m e := fun r h' he => J_aload hg hd (K r h' he)
theorem F_sload_n {i z : Nat} {a : Fin 4} (hi : (a : Nat) = i) (hg : jget lv i = some (.retAddr z)) (hd : decode M.2.2.1 pc = .ok (.aload_n a, 1)) (K : JF w ι M d (pc + 1) lv (.retAddr z :: st) m e) : JF w ι M d pc lv (st) m e := fun r h' he => J_sload_n hi hg hd (K r h' he)
theorem F_istore_n {i : Nat} {a : Fin 4} {x : Int32} (hi : (a : Nat) = i) (hn : i < M.2.2.2.1) (hl : jset lv i (.int x) = lv') (hd : decode M.2.2.1 pc = .ok (.istore_n a, 1)) (K : JF w ι M d (pc + 1) lv' st m e) : JF w ι M d pc lv (.int x :: st) m e := by
  subst hl
  exact fun r h' he => J_istore_n hi hn hd (K r h' he)
theorem F_istore {i : Nat} {x : Int32} (hn : i < M.2.2.2.1) (hl : jset lv i (.int x) = lv') (hd : decode M.2.2.1 pc = .ok (.istore i, 2)) (K : JF w ι M d (pc + 2) lv' st m e) : JF w ι M d pc lv (.int x :: st) m e := by
  subst hl
  exact fun r h' he => J_istore hn hd (K r h' he)
theorem F_astore_n {i : Nat} {a : Fin 4} {x : Nat} (hi : (a : Nat) = i) (hn : i < M.2.2.2.1) (hl : jset lv i (.ref x) = lv') (hd : decode M.2.2.1 pc = .ok (.astore_n a, 1)) (K : JF w ι M d (pc + 1) lv' st m e) : JF w ι M d pc lv (.ref x :: st) m e := by
  subst hl
  exact fun r h' he => J_astore_n hi hn hd (K r h' he)
theorem F_astore {i : Nat} {x : Nat} (hn : i < M.2.2.2.1) (hl : jset lv i (.ref x) = lv') (hd : decode M.2.2.1 pc = .ok (.astore i, 2)) (K : JF w ι M d (pc + 2) lv' st m e) : JF w ι M d pc lv (.ref x :: st) m e := by
  subst hl
  exact fun r h' he => J_astore hn hd (K r h' he)
theorem F_iinc {i : Nat} {n : Int} {x v : Int32} (hg : jget lv i = some (.int x)) (hv : x + Int32.ofInt n = v) (hn : i < M.2.2.2.1) (hl : jset lv i (.int v) = lv') (hd : decode M.2.2.1 pc = .ok (.iinc i n, 3)) (K : JF w ι M d (pc + 3) lv' st m e) : JF w ι M d pc lv st m e := by
  subst hl
  exact fun r h' he => J_iinc hg hv hn hd (K r h' he)
theorem F_goto {off : Int} (ht : (pc : Int) + off = (tgt : Int)) (hd : decode M.2.2.1 pc = .ok (.goto off, 3)) (K : JF w ι M d tgt lv st m e) : JF w ι M d pc lv st m e := fun r h' he => J_goto ht hd (K r h' he)
theorem F_icmp_lt {x y : Int32} {off : Int} (ht : (pc : Int) + off = (tgt : Int)) (hd : decode M.2.2.1 pc = .ok (.if_icmp .lt off, 3)) (K1 : JF w ι M d tgt lv st m e1) (K2 : JF w ι M d (pc + 3) lv st m e2) : JF w ι M d pc lv (.int y :: .int x :: st) m (if x < y then e1 else e2) := fun r h' he => J_icmp_lt ht hd (fun c => K1 r h' (by rw [if_pos (show x < y from c)] at he; exact he)) (fun c => K2 r h' (by rw [if_neg (show ¬ x < y from c)] at he; exact he))
theorem F_if_lt {x : Int32} {off : Int} (ht : (pc : Int) + off = (tgt : Int)) (hd : decode M.2.2.1 pc = .ok (.ifCond .lt off, 3)) (K1 : JF w ι M d tgt lv st m e1) (K2 : JF w ι M d (pc + 3) lv st m e2) : JF w ι M d pc lv (.int x :: st) m (if x < 0 then e1 else e2) := fun r h' he => J_if_lt ht hd (fun c => K1 r h' (by rw [if_pos (show x < 0 from c)] at he; exact he)) (fun c => K2 r h' (by rw [if_neg (show ¬ x < 0 from c)] at he; exact he))
theorem F_icmp_ge {x y : Int32} {off : Int} (ht : (pc : Int) + off = (tgt : Int)) (hd : decode M.2.2.1 pc = .ok (.if_icmp .ge off, 3)) (K1 : JF w ι M d tgt lv st m e1) (K2 : JF w ι M d (pc + 3) lv st m e2) : JF w ι M d pc lv (.int y :: .int x :: st) m (if y ≤ x then e1 else e2) := fun r h' he => J_icmp_ge ht hd (fun c => K1 r h' (by rw [if_pos (show y ≤ x from c)] at he; exact he)) (fun c => K2 r h' (by rw [if_neg (show ¬ y ≤ x from c)] at he; exact he))
theorem F_if_ge {x : Int32} {off : Int} (ht : (pc : Int) + off = (tgt : Int)) (hd : decode M.2.2.1 pc = .ok (.ifCond .ge off, 3)) (K1 : JF w ι M d tgt lv st m e1) (K2 : JF w ι M d (pc + 3) lv st m e2) : JF w ι M d pc lv (.int x :: st) m (if 0 ≤ x then e1 else e2) := fun r h' he => J_if_ge ht hd (fun c => K1 r h' (by rw [if_pos (show 0 ≤ x from c)] at he; exact he)) (fun c => K2 r h' (by rw [if_neg (show ¬ 0 ≤ x from c)] at he; exact he))
theorem F_icmp_gt {x y : Int32} {off : Int} (ht : (pc : Int) + off = (tgt : Int)) (hd : decode M.2.2.1 pc = .ok (.if_icmp .gt off, 3)) (K1 : JF w ι M d tgt lv st m e1) (K2 : JF w ι M d (pc + 3) lv st m e2) : JF w ι M d pc lv (.int y :: .int x :: st) m (if y < x then e1 else e2) := fun r h' he => J_icmp_gt ht hd (fun c => K1 r h' (by rw [if_pos (show y < x from c)] at he; exact he)) (fun c => K2 r h' (by rw [if_neg (show ¬ y < x from c)] at he; exact he))
theorem F_if_gt {x : Int32} {off : Int} (ht : (pc : Int) + off = (tgt : Int)) (hd : decode M.2.2.1 pc = .ok (.ifCond .gt off, 3)) (K1 : JF w ι M d tgt lv st m e1) (K2 : JF w ι M d (pc + 3) lv st m e2) : JF w ι M d pc lv (.int x :: st) m (if 0 < x then e1 else e2) := fun r h' he => J_if_gt ht hd (fun c => K1 r h' (by rw [if_pos (show 0 < x from c)] at he; exact he)) (fun c => K2 r h' (by rw [if_neg (show ¬ 0 < x from c)] at he; exact he))
theorem F_icmp_le {x y : Int32} {off : Int} (ht : (pc : Int) + off = (tgt : Int)) (hd : decode M.2.2.1 pc = .ok (.if_icmp .le off, 3)) (K1 : JF w ι M d tgt lv st m e1) (K2 : JF w ι M d (pc + 3) lv st m e2) : JF w ι M d pc lv (.int y :: .int x :: st) m (if x ≤ y then e1 else e2) := fun r h' he => J_icmp_le ht hd (fun c => K1 r h' (by rw [if_pos (show x ≤ y from c)] at he; exact he)) (fun c => K2 r h' (by rw [if_neg (show ¬ x ≤ y from c)] at he; exact he))
theorem F_if_le {x : Int32} {off : Int} (ht : (pc : Int) + off = (tgt : Int)) (hd : decode M.2.2.1 pc = .ok (.ifCond .le off, 3)) (K1 : JF w ι M d tgt lv st m e1) (K2 : JF w ι M d (pc + 3) lv st m e2) : JF w ι M d pc lv (.int x :: st) m (if x ≤ 0 then e1 else e2) := fun r h' he => J_if_le ht hd (fun c => K1 r h' (by rw [if_pos (show x ≤ 0 from c)] at he; exact he)) (fun c => K2 r h' (by rw [if_neg (show ¬ x ≤ 0 from c)] at he; exact he))
theorem F_icmp_eq {x y : Int32} {off : Int} (ht : (pc : Int) + off = (tgt : Int)) (hd : decode M.2.2.1 pc = .ok (.if_icmp .eq off, 3)) (K1 : JF w ι M d tgt lv st m e1) (K2 : JF w ι M d (pc + 3) lv st m e2) : JF w ι M d pc lv (.int y :: .int x :: st) m (if x = y then e1 else e2) := fun r h' he => J_icmp_eq ht hd (fun c => K1 r h' (by rw [if_pos (show x = y from c)] at he; exact he)) (fun c => K2 r h' (by rw [if_neg (show ¬ x = y from c)] at he; exact he))
theorem F_if_eq {x : Int32} {off : Int} (ht : (pc : Int) + off = (tgt : Int)) (hd : decode M.2.2.1 pc = .ok (.ifCond .eq off, 3)) (K1 : JF w ι M d tgt lv st m e1) (K2 : JF w ι M d (pc + 3) lv st m e2) : JF w ι M d pc lv (.int x :: st) m (if x = 0 then e1 else e2) := fun r h' he => J_if_eq ht hd (fun c => K1 r h' (by rw [if_pos (show x = 0 from c)] at he; exact he)) (fun c => K2 r h' (by rw [if_neg (show ¬ x = 0 from c)] at he; exact he))
theorem F_icmp_ne {x y : Int32} {off : Int} (ht : (pc : Int) + off = (tgt : Int)) (hd : decode M.2.2.1 pc = .ok (.if_icmp .ne off, 3)) (K1 : JF w ι M d tgt lv st m e1) (K2 : JF w ι M d (pc + 3) lv st m e2) : JF w ι M d pc lv (.int y :: .int x :: st) m (if x = y then e2 else e1) := fun r h' he => J_icmp_ne ht hd (fun c => K1 r h' (by rw [if_neg (show ¬ x = y from c)] at he; exact he)) (fun c => K2 r h' (by rw [if_pos (Decidable.of_not_not (show ¬ ¬ x = y from c))] at he; exact he))
theorem F_if_ne {x : Int32} {off : Int} (ht : (pc : Int) + off = (tgt : Int)) (hd : decode M.2.2.1 pc = .ok (.ifCond .ne off, 3)) (K1 : JF w ι M d tgt lv st m e1) (K2 : JF w ι M d (pc + 3) lv st m e2) : JF w ι M d pc lv (.int x :: st) m (if x = 0 then e2 else e1) := fun r h' he => J_if_ne ht hd (fun c => K1 r h' (by rw [if_neg (show ¬ x = 0 from c)] at he; exact he)) (fun c => K2 r h' (by rw [if_pos (Decidable.of_not_not (show ¬ ¬ x = 0 from c))] at he; exact he))
theorem F_case {x : Int32} {c : Int32} (K1 : x = c → JF w ι M d pc lv (.int x :: st) m e1) (K2 : ¬ x = c → JF w ι M d pc lv (.int x :: st) m e2) : JF w ι M d pc lv (.int x :: st) m (if x = c then e1 else e2) := fun r h' he => by
  by_cases hc : x = c
  · rw [if_pos hc] at he
    exact K1 hc r h' he
  · rw [if_neg hc] at he
    exact K2 hc r h' he
theorem F_tin {dflt lo hi : Int} {offs : Array Int} {len : Nat} {x : Int32} {off : Int} (h1 : ¬ x.toInt < lo) (h2 : ¬ hi < x.toInt) (ho : offs[(x.toInt - lo).toNat]? = some off) (ht : (pc : Int) + off = (tgt : Int)) (hd : decode M.2.2.1 pc = .ok (.tableswitch dflt lo hi offs, len)) (K : JF w ι M d tgt lv st m e) : JF w ι M d pc lv (.int x :: st) m e := fun r h' he => J_tin h1 h2 ho ht hd (K r h' he)
theorem F_tout {dflt lo hi : Int} {offs : Array Int} {len : Nat} {x : Int32} (h1 : x.toInt < lo ∨ hi < x.toInt) (ht : (pc : Int) + dflt = (tgt : Int)) (hd : decode M.2.2.1 pc = .ok (.tableswitch dflt lo hi offs, len)) (K : JF w ι M d tgt lv st m e) : JF w ι M d pc lv (.int x :: st) m e := fun r h' he => J_tout h1 ht hd (K r h' he)
theorem F_look {dflt : Int} {ps : Array (Int × Int)} {len : Nat} {x : Int32} {off : Int} (hp : (ps.toList.zip (ps.toList.drop 1)).all (fun (a, next) => a.1 < next.1) = true) (ho : Op.lookupswitch.offset ps.toList dflt x.toInt = off) (ht : (pc : Int) + off = (tgt : Int)) (hd : decode M.2.2.1 pc = .ok (.lookupswitch dflt ps, len)) (K : JF w ι M d tgt lv st m e) : JF w ι M d pc lv (.int x :: st) m e := fun r h' he => J_look hp ho ht hd (K r h' he)
theorem F_idiv {x y : Int32} {k : Int32 → fR R} (hd : decode M.2.2.1 pc = .ok (.idiv, 1)) (K : ∀ z, JF w ι M d (pc + 1) lv (.int z :: st) m (k z)) : JF w ι M d pc lv (.int y :: .int x :: st) m ((dvI x y).bind k) := fun r h' he => by
  obtain ⟨z, hz, he⟩ := Option.bind_eq_some_iff.mp he
  unfold dvI at hz
  split at hz
  · cases hz
  · rename_i hy
    cases hz
    exact J_idiv hy hd (K _ r h' he)
theorem F_irem {x y : Int32} {k : Int32 → fR R} (hd : decode M.2.2.1 pc = .ok (.irem, 1)) (K : ∀ z, JF w ι M d (pc + 1) lv (.int z :: st) m (k z)) : JF w ι M d pc lv (.int y :: .int x :: st) m ((rmI x y).bind k) := fun r h' he => by
  obtain ⟨z, hz, he⟩ := Option.bind_eq_some_iff.mp he
  unfold rmI at hz
  split at hz
  · cases hz
  · rename_i hy
    cases hz
    refine J_irem hy hd ?_
    rw [irem_eq_mod]
    exact K _ r h' he
theorem mE_fld {ci k f a : Nat} (h : fAt w ci k f a) : ∃ fs, (mH w m)[a]? = some (.inr (ci, fs)) ∧ fs[k]? = some (mF m a k f) := by
  obtain ⟨fks, h1, h2⟩ := h
  refine ⟨_, mH_get h1, ?_⟩
  rw [List.getElem?_mapIdx, h2]; rfl
theorem F_gI {idx ci k a n : Nat} (ha : fAt w ci k 0 a) (hn : 64 * a + k = n) (hf : jFl M.2.1.cls idx ci k) (hd : decode M.2.2.1 pc = .ok (.getfield idx, 3)) (K : JF w ι M d (pc + 3) lv (.int (mI m n) :: st) m e) : JF w ι M d pc lv (.ref a :: st) m e := fun r h' he => by
  subst hn
  obtain ⟨fs, h1, h2⟩ := mE_fld (m := m) ha
  exact J_getf hf h1 h2 hd (K r h' he)
theorem F_gR {idx ci k a b : Nat} (ha : fAt w ci k (b + 2) a) (hf : jFl M.2.1.cls idx ci k) (hd : decode M.2.2.1 pc = .ok (.getfield idx, 3)) (K : JF w ι M d (pc + 3) lv (.ref b :: st) m e) : JF w ι M d pc lv (.ref a :: st) m e := fun r h' he => by
  obtain ⟨fs, h1, h2⟩ := mE_fld (m := m) ha
  exact J_getf hf h1 h2 hd (K r h' he)
theorem F_gV {idx ci k a n : Nat} (ha : fAt w ci k 1 a) (hn : 64 * a + k = n) (hf : jFl M.2.1.cls idx ci k) (hd : decode M.2.2.1 pc = .ok (.getfield idx, 3)) (K : JF w ι M d (pc + 3) lv (.ref (mR m n) :: st) m e) : JF w ι M d pc lv (.ref a :: st) m e := fun r h' he => by
  subst hn
  obtain ⟨fs, h1, h2⟩ := mE_fld (m := m) ha
  exact J_getf hf h1 h2 hd (K r h' he)
theorem F_pI {idx ci kk a n : Nat} {x : Int32} {k : mM → fR R} (ha : fAt w ci kk 0 a) (hn : 64 * a + kk = n) (hf : jFl M.2.1.cls idx ci kk) (hfin : ∀ q, vwCl[ci]? = some q → (q.2.1 kk).2.2.2 = false) (hv : jFit (jty ci kk) (.int x)) (hd : decode M.2.2.1 pc = .ok (.putfield idx, 3)) (K : ∀ m1, JF w ι M d (pc + 3) lv st m1 (k m1)) : JF w ι M d pc lv (.int x :: .ref a :: st) m (nmM (wI m n x) k) := fun r h' he => by
  subst hn
  obtain ⟨fks, h1, h2⟩ := ha
  refine J_putf hf (mH_get h1) hfin hv (by rw [List.length_mapIdx]; exact (List.getElem?_eq_some_iff.mp h2).1) hd ?_
  rw [mH_wI h1 h2]
  exact K _ r h' he
theorem F_pZ {idx ci kk a n : Nat} {x : Int32} {k : mM → fR R} (ha : fAt w ci kk 0 a) (hn : 64 * a + kk = n) (hf : jFl M.2.1.cls idx ci kk) (hfin : ∀ q, vwCl[ci]? = some q → (q.2.1 kk).2.2.2 = false) (hv : x = 0 ∨ x = 1 → jFit (jty ci kk) (.int x)) (hd : decode M.2.2.1 pc = .ok (.putfield idx, 3)) (K : ∀ m1, JF w ι M d (pc + 3) lv st m1 (k m1)) : JF w ι M d pc lv (.int x :: .ref a :: st) m (chZ x (nmM (wI m n x) k)) := fun r h' he => by
  unfold chZ at he
  split at he
  · rename_i hz
    exact F_pI ha hn hf hfin (hv hz) hd K r h' he
  · cases he
theorem F_pV {idx ci kk a n b : Nat} {k : mM → fR R} (ha : fAt w ci kk 1 a) (hn : 64 * a + kk = n) (hf : jFl M.2.1.cls idx ci kk) (hfin : ∀ q, vwCl[ci]? = some q → (q.2.1 kk).2.2.2 = false) (hv : jFit (jty ci kk) (.ref b)) (hd : decode M.2.2.1 pc = .ok (.putfield idx, 3)) (K : ∀ m1, JF w ι M d (pc + 3) lv st m1 (k m1)) : JF w ι M d pc lv (.ref b :: .ref a :: st) m (nmM (wR m n b) k) := fun r h' he => by
  subst hn
  obtain ⟨fks, h1, h2⟩ := ha
  refine J_putf hf (mH_get h1) hfin hv (by rw [List.length_mapIdx]; exact (List.getElem?_eq_some_iff.mp h2).1) hd ?_
  rw [mH_wR h1 h2]
  exact K _ r h' he
theorem mE_row {t a : Nat} (h : isA w t a = true) (ht : t ≠ 1) : (mH w m)[a]? = some (.inl (t, .inl (mA m a))) := by
  rw [mH_get (isA_ok h), mE_arr ht]
theorem mE_rowL {a : Nat} (h : isA w 1 a = true) : (mH w m)[a]? = some (.inl (1, .inr (.inl (mL m a)))) := mH_get (isA_ok h)
theorem F_iald {a : Nat} {i : Int32} {k : Int32 → fR R} (ha : isA w 0 a = true) (hd : decode M.2.2.1 pc = .ok (.iaload, 1)) (K : ∀ x, JF w ι M d (pc + 1) lv (.int x :: st) m (k x)) : JF w ι M d pc lv (.int i :: .ref a :: st) m ((gA (mA m a) i).bind k) := fun r h' he => by
  obtain ⟨x, hx, he⟩ := Option.bind_eq_some_iff.mp he
  unfold gA at hx
  split at hx
  · rename_i h2
    exact J_iald (mE_row ha (by decide)) h2 hx hd (K x r h' he)
  · cases hx
theorem F_bald {a : Nat} {i : Int32} {k : Int32 → fR R} (ha : isA w 2 a = true) (hd : decode M.2.2.1 pc = .ok (.baload, 1)) (K : ∀ x, JF w ι M d (pc + 1) lv (.int x :: st) m (k x)) : JF w ι M d pc lv (.int i :: .ref a :: st) m ((gA (mA m a) i).bind k) := fun r h' he => by
  obtain ⟨x, hx, he⟩ := Option.bind_eq_some_iff.mp he
  unfold gA at hx
  split at hx
  · rename_i h2
    exact J_bald (mE_row ha (by decide)) h2 hx hd (K x r h' he)
  · cases hx
theorem F_zald {a : Nat} {i : Int32} {k : Int32 → fR R} (ha : isA w 3 a = true) (hd : decode M.2.2.1 pc = .ok (.baload, 1)) (K : ∀ x, JF w ι M d (pc + 1) lv (.int x :: st) m (k x)) : JF w ι M d pc lv (.int i :: .ref a :: st) m ((gA (mA m a) i).bind k) := fun r h' he => by
  obtain ⟨x, hx, he⟩ := Option.bind_eq_some_iff.mp he
  unfold gA at hx
  split at hx
  · rename_i h2
    exact J_zald (mE_row ha (by decide)) h2 hx hd (K x r h' he)
  · cases hx
theorem F_iast {a : Nat} {i x : Int32} {k : mM → fR R} (ha : isA w 0 a = true) (hd : decode M.2.2.1 pc = .ok (.iastore, 1)) (K : ∀ m1, JF w ι M d (pc + 1) lv st m1 (k m1)) : JF w ι M d pc lv (.int x :: .int i :: .ref a :: st) m ((sA 0 m a i x).bind k) := fun r h' he => by
  obtain ⟨m1, hx, he⟩ := Option.bind_eq_some_iff.mp he
  unfold sA at hx
  split at hx
  · rename_i h2
    cases hx
    refine J_iast (mE_row ha (by decide)) h2.1 h2.2 hd ?_
    rw [mH_wA (isA_ok ha) (by decide)]
    exact K _ r h' he
  · cases hx
theorem F_bast {a : Nat} {i x : Int32} {k : mM → fR R} (ha : isA w 2 a = true) (hd : decode M.2.2.1 pc = .ok (.bastore, 1)) (K : ∀ m1, JF w ι M d (pc + 1) lv st m1 (k m1)) : JF w ι M d pc lv (.int x :: .int i :: .ref a :: st) m ((sA 2 m a i x).bind k) := fun r h' he => by
  obtain ⟨m1, hx, he⟩ := Option.bind_eq_some_iff.mp he
  unfold sA at hx
  split at hx
  · rename_i h2
    cases hx
    refine J_bast (mE_row ha (by decide)) h2.1 h2.2 hd ?_
    rw [mH_wA (isA_ok ha) (by decide)]
    exact K _ r h' he
  · cases hx
theorem F_zast {a : Nat} {i x : Int32} {k : mM → fR R} (ha : isA w 3 a = true) (hd : decode M.2.2.1 pc = .ok (.bastore, 1)) (K : ∀ m1, JF w ι M d (pc + 1) lv st m1 (k m1)) : JF w ι M d pc lv (.int x :: .int i :: .ref a :: st) m ((sA 3 m a i x).bind k) := fun r h' he => by
  obtain ⟨m1, hx, he⟩ := Option.bind_eq_some_iff.mp he
  unfold sA at hx
  split at hx
  · rename_i h2
    cases hx
    refine J_zast (mE_row ha (by decide)) h2.1 h2.2 hd ?_
    rw [mH_wA (isA_ok ha) (by decide)]
    exact K _ r h' he
  · cases hx
theorem F_lald {a : Nat} {i : Int32} {k : Int64 → fR R} (ha : isA w 1 a = true) (hd : decode M.2.2.1 pc = .ok (.laload, 1)) (K : ∀ x, JF w ι M d (pc + 1) lv (.long x :: st) m (k x)) : JF w ι M d pc lv (.int i :: .ref a :: st) m ((gL (mL m a) i).bind k) := fun r h' he => by
  obtain ⟨x, hx, he⟩ := Option.bind_eq_some_iff.mp he
  unfold gL at hx
  split at hx
  · rename_i h2
    exact J_lald (mE_rowL ha) h2 hx hd (K x r h' he)
  · cases hx
theorem F_last {a : Nat} {i : Int32} {x : Int64} {k : mM → fR R} (ha : isA w 1 a = true) (hd : decode M.2.2.1 pc = .ok (.lastore, 1)) (K : ∀ m1, JF w ι M d (pc + 1) lv st m1 (k m1)) : JF w ι M d pc lv (.long x :: .int i :: .ref a :: st) m ((sL m a i x).bind k) := fun r h' he => by
  obtain ⟨m1, hx, he⟩ := Option.bind_eq_some_iff.mp he
  unfold sL at hx
  split at hx
  · rename_i h2
    cases hx
    refine J_last (mE_rowL ha) h2.1 h2.2 hd ?_
    rw [mH_wL (isA_ok ha)]
    exact K _ r h' he
  · cases hx
theorem F_aald {a t : Nat} {rs : List Nat} {i : Int32} {k : Nat → fR R} (ha : (lay w)[a]? = some (.inr (.inr (t, rs)))) (ht : t = 4 ∨ t = 5) (hd : decode M.2.2.1 pc = .ok (.aaload, 1)) (K : ∀ x, JF w ι M d (pc + 1) lv (.ref x :: st) m (k x)) : JF w ι M d pc lv (.int i :: .ref a :: st) m ((gT rs i).bind k) := fun r h' he => by
  obtain ⟨x, hx, he⟩ := Option.bind_eq_some_iff.mp he
  unfold gT at hx
  split at hx
  · rename_i h2
    refine J_aald (rs := rs.map some) ht (mH_get ha) h2 ?_ hd (K x r h' he)
    rw [List.getElem?_map, hx]; rfl
  · cases hx
theorem F_copyi {idx a0 a1 : Nat} {sp dp n : Int32} {k : mM → fR R} (h0 : isA w 0 a0 = true) (h1 : isA w 0 a1 = true) (hl : Cond.methodLink M.2.1.cls idx arraycopyName ∈ jG) (hs : (st.map fun v => v.category).sum ≤ 8) (hd1 : 1 ≤ d) (hd : decode M.2.2.1 pc = .ok (.invokestatic idx, 3)) (K : ∀ m1, JF w ι M d (pc + 3) lv st m1 (k m1)) : JF w ι M d pc lv (.int n :: .int dp :: .ref a1 :: .int sp :: .ref a0 :: st) m ((cpA m a0 sp a1 dp n).bind k) := fun r h' he => by
  obtain ⟨m1, hx, he⟩ := Option.bind_eq_some_iff.mp he
  unfold cpA at hx
  split at hx
  · rename_i hc
    obtain ⟨g3, g4, g5, g6, g7⟩ := hc
    cases hx
    refine J_copyi hl hs hd1 (mE_row h0 (by decide)) (mE_row h1 (by decide)) g3 g4 g5 g6 g7 hd ?_
    rw [mH_wA (isA_ok h1) (by decide)]
    exact K _ r h' he
  · cases hx
theorem F_ret {x : Int32} (hr : M.2.2.2.2.1 = some .int) (hd : decode M.2.2.1 pc = .ok (.ireturn, 1)) : JF w uI M d pc lv [.int x] m (some (x, m)) := fun r h' he => by
  cases he
  exact J_iret hr rfl hd ⟨rfl, rfl⟩
theorem F_retZ {x : Int32} (hr : M.2.2.2.2.1 = some .boolean) (hd : decode M.2.2.1 pc = .ok (.ireturn, 1)) : JF w uI M d pc lv [.int x] m (chZ x (some (x, m))) := fun r h' he => by
  unfold chZ at he
  split at he
  · rename_i hz
    cases he
    exact J_iret hr (by rcases hz with rfl | rfl <;> rfl) hd ⟨rfl, rfl⟩
  · cases he
theorem F_retB {x : Int32} (hr : M.2.2.2.2.1 = some .boolean) (hz : x = 0 ∨ x = 1) (hd : decode M.2.2.1 pc = .ok (.ireturn, 1)) : JF w uI M d pc lv [.int x] m (some (x, m)) := fun r h' he => by
  cases he
  exact J_iret hr (by rcases hz with rfl | rfl <;> rfl) hd ⟨rfl, rfl⟩
theorem F_retL {x : Int64} (hr : M.2.2.2.2.1 = some .long) (hd : decode M.2.2.1 pc = .ok (.lreturn, 1)) : JF w uL M d pc lv [.long x] m (some (x, m)) := fun r h' he => by
  cases he
  exact J_lret hr hd ⟨rfl, rfl⟩
theorem F_retV (hr : M.2.2.2.2.1 = none) (hd : decode M.2.2.1 pc = .ok (.return_, 1)) : JF w uU M d pc lv [] m (some ((), m)) := fun r h' he => by
  cases he
  exact J_vret hr hd ⟨rfl, rfl⟩
theorem F_callV {idx n b ci : Nat} {As : List Value} {q : vw_C} {f : fR R'} {k : R' → mM → fR R} (hb : isC w ci b = true) (hok : jok M') (hv : jvirt M') (hl : Cond.methodLink M.2.1.cls idx M'.2.1 ∈ jG) (hpn : (parseMethodDescriptor M'.2.1.desc).map (fun d => d.parameters.length) = some n) (hn : As.length = n) (hq : vwCl[ci]? = some q) (hqc : q.1 = M'.2.1.cls) (hs : (st.map fun v => v.category).sum ≤ 8)
    (hd' : d' + 1 ≤ d) (hd : decode M.2.2.1 pc = .ok (.invokevirtual idx, 3)) (hc : cF w ι' M' d' (.ref b :: As) m f) (K : ∀ r1 m1, JF w ι M d (pc + 3) lv ((ι' r1).toList ++ st) m1 (k r1 m1)) : JF w ι M d pc lv (As.reverse ++ .ref b :: st) m (bnd f k) := fun r h' he => by
  obtain ⟨r1, m1, hx, he⟩ := bnd_ok he
  obtain ⟨fks, g1⟩ := isC_ok hb
  have := J_callV (kc' := 0) (ks' := 0) (kc := 0) (ks := 0) (M := M) (on := false) (L := 0) (xs := fun _ => 0) (lv := lv) (Q := fun r1 h1 => r1 = ι r ∧ h1 = mH w h') hok hv hl hpn hn (mH_get (m := m) g1) hq hqc hs (Or.inl rfl) hd' hd (hc r1 m1 hx) (fun r2 h2 hq2 _ => by obtain ⟨rfl, rfl⟩ := hq2; exact K r1 m1 r h' he)
  exact this
theorem F_callS {idx n : Nat} {As : List Value} {f : fR R'} {k : R' → mM → fR R} (hok : jok M') (hv : jstat M') (hl : Cond.methodLink M.2.1.cls idx M'.2.1 ∈ jG) (hcl : M'.2.1.cls = M.2.1.cls) (hpn : (parseMethodDescriptor M'.2.1.desc).map (fun d => d.parameters.length) = some n) (hn : As.length = n) (hs : (st.map fun v => v.category).sum ≤ 8)
    (hd' : d' + 1 ≤ d) (hd : decode M.2.2.1 pc = .ok (.invokestatic idx, 3)) (hc : cF w ι' M' d' As m f) (K : ∀ r1 m1, JF w ι M d (pc + 3) lv ((ι' r1).toList ++ st) m1 (k r1 m1)) : JF w ι M d pc lv (As.reverse ++ st) m (bnd f k) := fun r h' he => by
  obtain ⟨r1, m1, hx, he⟩ := bnd_ok he
  have := J_callS (kc' := 0) (ks' := 0) (kc := 0) (ks := 0) (M := M) (on := false) (L := 0) (xs := fun _ => 0) (lv := lv) (Q := fun r1 h1 => r1 = ι r ∧ h1 = mH w h') hok hv hl hcl hpn hn hs (Or.inl rfl) hd' hd (hc r1 m1 hx) (fun r2 h2 hq2 _ => by obtain ⟨rfl, rfl⟩ := hq2; exact K r1 m1 r h' he)
  exact this
theorem cF_of {args : List Value} (hok : jok M) (hargs : ∀ sb ad, (lg_sl (args.map (jV sb ad))).length ≤ M.2.2.2.1) (K : JF w ι M d 0 (lv_args 0 args) [] m e) : cF w ι M d args m e := fun r h' he => jCt_of hok hargs (K r h' he)
end FROWS
