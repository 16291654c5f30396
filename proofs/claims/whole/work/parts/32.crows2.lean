/-! the judgement over a memory that a predicate M tells -/
abbrev g_M : Type := Nat → Nat → t_M → Prop
def gT (g : t_G) (q : t_MI) (d pc : Nat) (lo : List (Option Value)) (st : List Value) (M : g_M) (Q : t_Q) : Prop := ∀ (n u : Nat) (E : t_M), M n u E → tT g q d pc lo st n u E Q
section GL
variable {g : t_G} {q : t_MI} {d pc : Nat} {lo : List (Option Value)} {st : List Value} {M : g_M} {Q : t_Q}
theorem C_iconst {i : Int} {v : Int32} (hd : decode q.2.1 pc = .ok (.iconst i, 1)) (hv : Int32.ofInt i = v) (h : gT g q d (pc + 1) lo (.int v :: st) M Q) : gT g q d pc lo (st) M Q := fun n u E hM => T_iconst hd hv (h n u E hM)
theorem C_bipush {i : Int} {v : Int32} (hd : decode q.2.1 pc = .ok (.bipush i, 2)) (hv : (Int8.ofInt i).toInt32 = v) (h : gT g q d (pc + 2) lo (.int v :: st) M Q) : gT g q d pc lo (st) M Q := fun n u E hM => T_bipush hd hv (h n u E hM)
theorem C_sipush {i : Int} {v : Int32} (hd : decode q.2.1 pc = .ok (.sipush i, 3)) (hv : (Int16.ofInt i).toInt32 = v) (h : gT g q d (pc + 3) lo (.int v :: st) M Q) : gT g q d pc lo (st) M Q := fun n u E hM => T_sipush hd hv (h n u E hM)
theorem C_lconst {i : Fin 2} {v : Int64} (hd : decode q.2.1 pc = .ok (.lconst i, 1)) (hv : Int64.ofNat (i : Nat) = v) (h : gT g q d (pc + 1) lo (.long v :: st) M Q) : gT g q d pc lo (st) M Q := fun n u E hM => T_lconst hd hv (h n u E hM)
theorem C_ldc {i : Nat} {v : Int32} (hd : decode q.2.1 pc = .ok (.ldc i, 2)) (hw : Cond.constant q.1.cls i v ∈ tw) (h : gT g q d (pc + 2) lo (.int v :: st) M Q) : gT g q d pc lo (st) M Q := fun n u E hM => T_ldc hd hw (h n u E hM)
theorem C_ldcw {i : Nat} {v : Int32} (hd : decode q.2.1 pc = .ok (.ldc_w i, 3)) (hw : Cond.constant q.1.cls i v ∈ tw) (h : gT g q d (pc + 3) lo (.int v :: st) M Q) : gT g q d pc lo (st) M Q := fun n u E hM => T_ldcw hd hw (h n u E hM)
theorem C_ldc2 {i : Nat} {v : Int64} (hd : decode q.2.1 pc = .ok (.ldc2_w i, 3)) (hw : Cond.constantLong q.1.cls i v ∈ tw) (h : gT g q d (pc + 3) lo (.long v :: st) M Q) : gT g q d pc lo (st) M Q := fun n u E hM => T_ldc2 hd hw (h n u E hM)
theorem C_iload_n {k : Fin 4} {i : Nat} {x : Int32} (hd : decode q.2.1 pc = .ok (.iload_n k, 1)) (hi : (k : Nat) = i) (hl : lo[i]? = some (some (.int x))) (h : gT g q d (pc + 1) lo (.int x :: st) M Q) : gT g q d pc lo (st) M Q := fun n u E hM => T_iload_n hd hi hl (h n u E hM)
theorem C_iload {i : Nat} {x : Int32} (hd : decode q.2.1 pc = .ok (.iload i, 2)) (hl : lo[i]? = some (some (.int x))) (h : gT g q d (pc + 2) lo (.int x :: st) M Q) : gT g q d pc lo (st) M Q := fun n u E hM => T_iload hd hl (h n u E hM)
theorem C_aload_n {k : Fin 4} {i : Nat} {x : Nat} (hd : decode q.2.1 pc = .ok (.aload_n k, 1)) (hi : (k : Nat) = i) (hl : lo[i]? = some (some (.ref x))) (h : gT g q d (pc + 1) lo (.ref x :: st) M Q) : gT g q d pc lo (st) M Q := fun n u E hM => T_aload_n hd hi hl (h n u E hM)
theorem C_aload {i : Nat} {x : Nat} (hd : decode q.2.1 pc = .ok (.aload i, 2)) (hl : lo[i]? = some (some (.ref x))) (h : gT g q d (pc + 2) lo (.ref x :: st) M Q) : gT g q d pc lo (st) M Q := fun n u E hM => T_aload hd hl (h n u E hM)
theorem C_lload_n {k : Fin 4} {i : Nat} {x : Int64} (hd : decode q.2.1 pc = .ok (.lload_n k, 1)) (hi : (k : Nat) = i) (hl : lo[i]? = some (some (.long x))) (h : gT g q d (pc + 1) lo (.long x :: st) M Q) : gT g q d pc lo (st) M Q := fun n u E hM => T_lload_n hd hi hl (h n u E hM)
theorem C_lload {i : Nat} {x : Int64} (hd : decode q.2.1 pc = .ok (.lload i, 2)) (hl : lo[i]? = some (some (.long x))) (h : gT g q d (pc + 2) lo (.long x :: st) M Q) : gT g q d pc lo (st) M Q := fun n u E hM => T_lload hd hl (h n u E hM)
theorem C_istore_n {k : Fin 4} {i : Nat} {x : Int32} (hd : decode q.2.1 pc = .ok (.istore_n k, 1)) (hi : (k : Nat) = i) (hn : i < q.2.2.1) (hl : t_nl lo i = true) (h : gT g q d (pc + 1) (lo.set i (some (.int x))) st M Q) : gT g q d pc lo (.int x :: st) M Q := fun n u E hM => T_istore_n hd hi hn hl (h n u E hM)
theorem C_istore {i : Nat} {x : Int32} (hd : decode q.2.1 pc = .ok (.istore i, 2)) (hn : i < q.2.2.1) (hl : t_nl lo i = true) (h : gT g q d (pc + 2) (lo.set i (some (.int x))) st M Q) : gT g q d pc lo (.int x :: st) M Q := fun n u E hM => T_istore hd hn hl (h n u E hM)
theorem C_astore_n {k : Fin 4} {i : Nat} {x : Nat} (hd : decode q.2.1 pc = .ok (.astore_n k, 1)) (hi : (k : Nat) = i) (hn : i < q.2.2.1) (hl : t_nl lo i = true) (h : gT g q d (pc + 1) (lo.set i (some (.ref x))) st M Q) : gT g q d pc lo (.ref x :: st) M Q := fun n u E hM => T_astore_n hd hi hn hl (h n u E hM)
theorem C_astore {i : Nat} {x : Nat} (hd : decode q.2.1 pc = .ok (.astore i, 2)) (hn : i < q.2.2.1) (hl : t_nl lo i = true) (h : gT g q d (pc + 2) (lo.set i (some (.ref x))) st M Q) : gT g q d pc lo (.ref x :: st) M Q := fun n u E hM => T_astore hd hn hl (h n u E hM)
theorem C_lstore {i : Nat} {x : Int64} (hd : decode q.2.1 pc = .ok (.lstore i, 2)) (hn : i + 1 < q.2.2.1) (hl : t_nl lo i = true) (h : gT g q d (pc + 2) ((lo.set i (some (.long x))).set (i + 1) none) st M Q) : gT g q d pc lo (.long x :: st) M Q := fun n u E hM => T_lstore hd hn hl (h n u E hM)
theorem C_lstore_n {k : Fin 4} {i : Nat} {x : Int64} (hd : decode q.2.1 pc = .ok (.lstore_n k, 1)) (hi : (k : Nat) = i) (hn : i + 1 < q.2.2.1) (hl : t_nl lo i = true) (h : gT g q d (pc + 1) ((lo.set i (some (.long x))).set (i + 1) none) st M Q) : gT g q d pc lo (.long x :: st) M Q := fun n u E hM => T_lstore_n hd hi hn hl (h n u E hM)
theorem C_iadd {x y : Int32} (hd : decode q.2.1 pc = .ok (.iadd, 1)) (h : gT g q d (pc + 1) lo (.int (x + y) :: st) M Q) : gT g q d pc lo (.int y :: .int x :: st) M Q := fun n u E hM => T_iadd hd (h n u E hM)
theorem C_isub {x y : Int32} (hd : decode q.2.1 pc = .ok (.isub, 1)) (h : gT g q d (pc + 1) lo (.int (x - y) :: st) M Q) : gT g q d pc lo (.int y :: .int x :: st) M Q := fun n u E hM => T_isub hd (h n u E hM)
theorem C_imul {x y : Int32} (hd : decode q.2.1 pc = .ok (.imul, 1)) (h : gT g q d (pc + 1) lo (.int (x * y) :: st) M Q) : gT g q d pc lo (.int y :: .int x :: st) M Q := fun n u E hM => T_imul hd (h n u E hM)
theorem C_iand {x y : Int32} (hd : decode q.2.1 pc = .ok (.iand, 1)) (h : gT g q d (pc + 1) lo (.int (x &&& y) :: st) M Q) : gT g q d pc lo (.int y :: .int x :: st) M Q := fun n u E hM => T_iand hd (h n u E hM)
theorem C_ior {x y : Int32} (hd : decode q.2.1 pc = .ok (.ior, 1)) (h : gT g q d (pc + 1) lo (.int (x ||| y) :: st) M Q) : gT g q d pc lo (.int y :: .int x :: st) M Q := fun n u E hM => T_ior hd (h n u E hM)
theorem C_ladd {x y : Int64} (hd : decode q.2.1 pc = .ok (.ladd, 1)) (h : gT g q d (pc + 1) lo (.long (x + y) :: st) M Q) : gT g q d pc lo (.long y :: .long x :: st) M Q := fun n u E hM => T_ladd hd (h n u E hM)
theorem C_lsub {x y : Int64} (hd : decode q.2.1 pc = .ok (.lsub, 1)) (h : gT g q d (pc + 1) lo (.long (x - y) :: st) M Q) : gT g q d pc lo (.long y :: .long x :: st) M Q := fun n u E hM => T_lsub hd (h n u E hM)
theorem C_lmul {x y : Int64} (hd : decode q.2.1 pc = .ok (.lmul, 1)) (h : gT g q d (pc + 1) lo (.long (x * y) :: st) M Q) : gT g q d pc lo (.long y :: .long x :: st) M Q := fun n u E hM => T_lmul hd (h n u E hM)
theorem C_land {x y : Int64} (hd : decode q.2.1 pc = .ok (.land, 1)) (h : gT g q d (pc + 1) lo (.long (x &&& y) :: st) M Q) : gT g q d pc lo (.long y :: .long x :: st) M Q := fun n u E hM => T_land hd (h n u E hM)
theorem C_lor {x y : Int64} (hd : decode q.2.1 pc = .ok (.lor, 1)) (h : gT g q d (pc + 1) lo (.long (x ||| y) :: st) M Q) : gT g q d pc lo (.long y :: .long x :: st) M Q := fun n u E hM => T_lor hd (h n u E hM)
theorem C_lcmp {x y : Int64} (hd : decode q.2.1 pc = .ok (.lcmp, 1)) (h : gT g q d (pc + 1) lo (.int (lg_cmp x y) :: st) M Q) : gT g q d pc lo (.long y :: .long x :: st) M Q := fun n u E hM => T_lcmp hd (h n u E hM)
theorem C_dup {v : Value} (hd : decode q.2.1 pc = .ok (.dup, 1)) (hc : v.category = 1) (h : gT g q d (pc + 1) lo (v :: v :: st) M Q) : gT g q d pc lo (v :: st) M Q := fun n u E hM => T_dup hd hc (h n u E hM)
theorem C_pop {v : Value} (hd : decode q.2.1 pc = .ok (.pop, 1)) (hc : v.category = 1) (h : gT g q d (pc + 1) lo (st) M Q) : gT g q d pc lo (v :: st) M Q := fun n u E hM => T_pop hd hc (h n u E hM)
theorem C_dup_x1 {v w : Value} (hd : decode q.2.1 pc = .ok (.dup_x1, 1)) (hc : v.category = 1) (hc2 : w.category = 1) (h : gT g q d (pc + 1) lo (v :: w :: v :: st) M Q) : gT g q d pc lo (v :: w :: st) M Q := fun n u E hM => T_dup_x1 hd hc hc2 (h n u E hM)
theorem C_dup2 {v w : Value} (hd : decode q.2.1 pc = .ok (.dup2, 1)) (hc : v.category = 1) (hc2 : w.category = 1) (h : gT g q d (pc + 1) lo (v :: w :: v :: w :: st) M Q) : gT g q d pc lo (v :: w :: st) M Q := fun n u E hM => T_dup2 hd hc hc2 (h n u E hM)
theorem C_idiv {x y : Int32} (hd : decode q.2.1 pc = .ok (.idiv, 1)) (hne : ¬ y = 0) (h : gT g q d (pc + 1) lo (.int (x / y) :: st) M Q) : gT g q d pc lo (.int y :: .int x :: st) M Q := fun n u E hM => T_idiv hd hne (h n u E hM)
theorem C_irem {x y : Int32} (hd : decode q.2.1 pc = .ok (.irem, 1)) (hne : ¬ y = 0) (h : gT g q d (pc + 1) lo (.int (x - x / y * y) :: st) M Q) : gT g q d pc lo (.int y :: .int x :: st) M Q := fun n u E hM => T_irem hd hne (h n u E hM)
theorem C_ineg {x : Int32} (hd : decode q.2.1 pc = .ok (.ineg, 1)) (h : gT g q d (pc + 1) lo (.int (-x) :: st) M Q) : gT g q d pc lo (.int x :: st) M Q := fun n u E hM => T_ineg hd (h n u E hM)
theorem C_ishl {x y : Int32} (hd : decode q.2.1 pc = .ok (.ishl, 1)) (h : gT g q d (pc + 1) lo (.int (x <<< (y &&& 31)) :: st) M Q) : gT g q d pc lo (.int y :: .int x :: st) M Q := fun n u E hM => T_ishl hd (h n u E hM)
theorem C_ishr {x y : Int32} (hd : decode q.2.1 pc = .ok (.ishr, 1)) (h : gT g q d (pc + 1) lo (.int (x >>> (y &&& 31)) :: st) M Q) : gT g q d pc lo (.int y :: .int x :: st) M Q := fun n u E hM => T_ishr hd (h n u E hM)
theorem C_iushr {x y : Int32} (hd : decode q.2.1 pc = .ok (.iushr, 1)) (h : gT g q d (pc + 1) lo (.int (x.toUInt32 >>> (y.toUInt32 &&& Int32.toUInt32 31)).toInt32 :: st) M Q) : gT g q d pc lo (.int y :: .int x :: st) M Q := fun n u E hM => T_iushr hd (h n u E hM)
theorem C_lushr {x : Int64} {y : Int32} (hd : decode q.2.1 pc = .ok (.lushr, 1)) (h : gT g q d (pc + 1) lo (.long (x.toUInt64 >>> (y.toInt64.toUInt64 &&& Int64.toUInt64 63)).toInt64 :: st) M Q) : gT g q d pc lo (.int y :: .long x :: st) M Q := fun n u E hM => T_lushr hd (h n u E hM)
theorem C_lshl {x : Int64} {y : Int32} (hd : decode q.2.1 pc = .ok (.lshl, 1)) (h : gT g q d (pc + 1) lo (.long (x <<< (y.toInt64 &&& 63)) :: st) M Q) : gT g q d pc lo (.int y :: .long x :: st) M Q := fun n u E hM => T_lshl hd (h n u E hM)
theorem C_i2l {x : Int32} (hd : decode q.2.1 pc = .ok (.i2l, 1)) (h : gT g q d (pc + 1) lo (.long x.toInt64 :: st) M Q) : gT g q d pc lo (.int x :: st) M Q := fun n u E hM => T_i2l hd (h n u E hM)
theorem C_l2i {x : Int64} (hd : decode q.2.1 pc = .ok (.l2i, 1)) (h : gT g q d (pc + 1) lo (.int x.toInt32 :: st) M Q) : gT g q d pc lo (.long x :: st) M Q := fun n u E hM => T_l2i hd (h n u E hM)
theorem C_i2b {x : Int32} (hd : decode q.2.1 pc = .ok (.i2b, 1)) (h : gT g q d (pc + 1) lo (.int x.toInt8.toInt32 :: st) M Q) : gT g q d pc lo (.int x :: st) M Q := fun n u E hM => T_i2b hd (h n u E hM)
theorem C_i2c {x : Int32} (hd : decode q.2.1 pc = .ok (.i2c, 1)) (h : gT g q d (pc + 1) lo (.int (x.toUInt32 % 65536).toInt32 :: st) M Q) : gT g q d pc lo (.int x :: st) M Q := fun n u E hM => T_i2c hd (h n u E hM)
theorem C_goto {off : Int} {tgt : Nat} (hd : decode q.2.1 pc = .ok (.goto off, 3)) (ht : (pc : Int) + off = (tgt : Int)) (h : gT g q d tgt lo st M Q) : gT g q d pc lo st M Q := fun n u E hM => T_goto hd ht (h n u E hM)
theorem C_if_eq {x : Int32} {off : Int} {tgt : Nat} (hd : decode q.2.1 pc = .ok (.ifCond .eq off, 3)) (ht : (pc : Int) + off = (tgt : Int)) (h1 : x = 0 → gT g q d tgt lo st M Q) (h2 : ¬ (x = 0) → gT g q d (pc + 3) lo st M Q) : gT g q d pc lo (.int x :: st) M Q := fun n u E hM => T_if_eq hd ht (fun hz => h1 hz n u E hM) (fun hz => h2 hz n u E hM)
theorem C_icmp_eq {x y : Int32} {off : Int} {tgt : Nat} (hd : decode q.2.1 pc = .ok (.if_icmp .eq off, 3)) (ht : (pc : Int) + off = (tgt : Int)) (h1 : x = y → gT g q d tgt lo st M Q) (h2 : ¬ (x = y) → gT g q d (pc + 3) lo st M Q) : gT g q d pc lo (.int y :: .int x :: st) M Q := fun n u E hM => T_icmp_eq hd ht (fun hz => h1 hz n u E hM) (fun hz => h2 hz n u E hM)
theorem C_if_ne {x : Int32} {off : Int} {tgt : Nat} (hd : decode q.2.1 pc = .ok (.ifCond .ne off, 3)) (ht : (pc : Int) + off = (tgt : Int)) (h1 : ¬ x = 0 → gT g q d tgt lo st M Q) (h2 : x = 0 → gT g q d (pc + 3) lo st M Q) : gT g q d pc lo (.int x :: st) M Q := fun n u E hM => T_if_ne hd ht (fun hz => h1 hz n u E hM) (fun hz => h2 hz n u E hM)
theorem C_icmp_ne {x y : Int32} {off : Int} {tgt : Nat} (hd : decode q.2.1 pc = .ok (.if_icmp .ne off, 3)) (ht : (pc : Int) + off = (tgt : Int)) (h1 : ¬ x = y → gT g q d tgt lo st M Q) (h2 : x = y → gT g q d (pc + 3) lo st M Q) : gT g q d pc lo (.int y :: .int x :: st) M Q := fun n u E hM => T_icmp_ne hd ht (fun hz => h1 hz n u E hM) (fun hz => h2 hz n u E hM)
theorem C_if_lt {x : Int32} {off : Int} {tgt : Nat} (hd : decode q.2.1 pc = .ok (.ifCond .lt off, 3)) (ht : (pc : Int) + off = (tgt : Int)) (h1 : x < 0 → gT g q d tgt lo st M Q) (h2 : ¬ (x < 0) → gT g q d (pc + 3) lo st M Q) : gT g q d pc lo (.int x :: st) M Q := fun n u E hM => T_if_lt hd ht (fun hz => h1 hz n u E hM) (fun hz => h2 hz n u E hM)
theorem C_icmp_lt {x y : Int32} {off : Int} {tgt : Nat} (hd : decode q.2.1 pc = .ok (.if_icmp .lt off, 3)) (ht : (pc : Int) + off = (tgt : Int)) (h1 : x < y → gT g q d tgt lo st M Q) (h2 : ¬ (x < y) → gT g q d (pc + 3) lo st M Q) : gT g q d pc lo (.int y :: .int x :: st) M Q := fun n u E hM => T_icmp_lt hd ht (fun hz => h1 hz n u E hM) (fun hz => h2 hz n u E hM)
theorem C_if_ge {x : Int32} {off : Int} {tgt : Nat} (hd : decode q.2.1 pc = .ok (.ifCond .ge off, 3)) (ht : (pc : Int) + off = (tgt : Int)) (h1 : 0 ≤ x → gT g q d tgt lo st M Q) (h2 : ¬ (0 ≤ x) → gT g q d (pc + 3) lo st M Q) : gT g q d pc lo (.int x :: st) M Q := fun n u E hM => T_if_ge hd ht (fun hz => h1 hz n u E hM) (fun hz => h2 hz n u E hM)
theorem C_icmp_ge {x y : Int32} {off : Int} {tgt : Nat} (hd : decode q.2.1 pc = .ok (.if_icmp .ge off, 3)) (ht : (pc : Int) + off = (tgt : Int)) (h1 : y ≤ x → gT g q d tgt lo st M Q) (h2 : ¬ (y ≤ x) → gT g q d (pc + 3) lo st M Q) : gT g q d pc lo (.int y :: .int x :: st) M Q := fun n u E hM => T_icmp_ge hd ht (fun hz => h1 hz n u E hM) (fun hz => h2 hz n u E hM)
theorem C_if_gt {x : Int32} {off : Int} {tgt : Nat} (hd : decode q.2.1 pc = .ok (.ifCond .gt off, 3)) (ht : (pc : Int) + off = (tgt : Int)) (h1 : 0 < x → gT g q d tgt lo st M Q) (h2 : ¬ (0 < x) → gT g q d (pc + 3) lo st M Q) : gT g q d pc lo (.int x :: st) M Q := fun n u E hM => T_if_gt hd ht (fun hz => h1 hz n u E hM) (fun hz => h2 hz n u E hM)
theorem C_icmp_gt {x y : Int32} {off : Int} {tgt : Nat} (hd : decode q.2.1 pc = .ok (.if_icmp .gt off, 3)) (ht : (pc : Int) + off = (tgt : Int)) (h1 : y < x → gT g q d tgt lo st M Q) (h2 : ¬ (y < x) → gT g q d (pc + 3) lo st M Q) : gT g q d pc lo (.int y :: .int x :: st) M Q := fun n u E hM => T_icmp_gt hd ht (fun hz => h1 hz n u E hM) (fun hz => h2 hz n u E hM)
theorem C_if_le {x : Int32} {off : Int} {tgt : Nat} (hd : decode q.2.1 pc = .ok (.ifCond .le off, 3)) (ht : (pc : Int) + off = (tgt : Int)) (h1 : x ≤ 0 → gT g q d tgt lo st M Q) (h2 : ¬ (x ≤ 0) → gT g q d (pc + 3) lo st M Q) : gT g q d pc lo (.int x :: st) M Q := fun n u E hM => T_if_le hd ht (fun hz => h1 hz n u E hM) (fun hz => h2 hz n u E hM)
theorem C_icmp_le {x y : Int32} {off : Int} {tgt : Nat} (hd : decode q.2.1 pc = .ok (.if_icmp .le off, 3)) (ht : (pc : Int) + off = (tgt : Int)) (h1 : x ≤ y → gT g q d tgt lo st M Q) (h2 : ¬ (x ≤ y) → gT g q d (pc + 3) lo st M Q) : gT g q d pc lo (.int y :: .int x :: st) M Q := fun n u E hM => T_icmp_le hd ht (fun hz => h1 hz n u E hM) (fun hz => h2 hz n u E hM)
theorem C_tableIn {dflt lw hi : Int} {offs : Array Int} {len : Nat} {x : Int32} {off : Int} {tgt : Nat} (hd : decode q.2.1 pc = .ok (.tableswitch dflt lw hi offs, len)) (h1 : ¬ x.toInt < lw) (h2 : ¬ hi < x.toInt) (ho : offs[(x.toInt - lw).toNat]? = some off) (ht : (pc : Int) + off = (tgt : Int)) (h : gT g q d tgt lo st M Q) : gT g q d pc lo (.int x :: st) M Q := fun n u E hM => T_tableIn hd h1 h2 ho ht (h n u E hM)
theorem C_tableOut {dflt lw hi : Int} {offs : Array Int} {len : Nat} {x : Int32} {tgt : Nat} (hd : decode q.2.1 pc = .ok (.tableswitch dflt lw hi offs, len)) (h1 : x.toInt < lw ∨ hi < x.toInt) (ht : (pc : Int) + dflt = (tgt : Int)) (h : gT g q d tgt lo st M Q) : gT g q d pc lo (.int x :: st) M Q := fun n u E hM => T_tableOut hd h1 ht (h n u E hM)
theorem C_lookup {dflt : Int} {ps : Array (Int × Int)} {len : Nat} {x : Int32} {off : Int} {tgt : Nat} (hd : decode q.2.1 pc = .ok (.lookupswitch dflt ps, len)) (hp : (ps.toList.zip (ps.toList.drop 1)).all (fun (a, next) => a.1 < next.1) = true) (ho : Op.lookupswitch.offset ps.toList dflt x.toInt = off) (ht : (pc : Int) + off = (tgt : Int)) (h : gT g q d tgt lo st M Q) : gT g q d pc lo (.int x :: st) M Q := fun n u E hM => T_lookup hd hp ho ht (h n u E hM)
theorem C_iinc {i : Nat} {k : Int} {x : Int32} (hd : decode q.2.1 pc = .ok (.iinc i k, 3)) (hl : lo[i]? = some (some (.int x))) (hn : i < q.2.2.1) (hnl : t_nl lo i = true) (h : gT g q d (pc + 3) (lo.set i (some (.int (x + Int32.ofInt k)))) st M Q) : gT g q d pc lo st M Q := fun n u E hM => T_iinc hd hl hn hnl (h n u E hM)
theorem CN_iconst {k : Nat} (hd : decode q.2.1 pc = .ok (.iconst (k : Int), 1)) (h : gT g q d (pc + 1) lo (.int (nI k) :: st) M Q) : gT g q d pc lo st M Q := fun n u E hM => N_iconst hd (h n u E hM)
theorem CN_bipush {k : Nat} (hd : decode q.2.1 pc = .ok (.bipush (k : Int), 2)) (hk : k < 128) (h : gT g q d (pc + 2) lo (.int (nI k) :: st) M Q) : gT g q d pc lo st M Q := fun n u E hM => N_bipush hd hk (h n u E hM)
theorem CN_sipush {k : Nat} (hd : decode q.2.1 pc = .ok (.sipush (k : Int), 3)) (hk : k < 32768) (h : gT g q d (pc + 3) lo (.int (nI k) :: st) M Q) : gT g q d pc lo st M Q := fun n u E hM => N_sipush hd hk (h n u E hM)
theorem CN_iadd {a b : Nat} (hd : decode q.2.1 pc = .ok (.iadd, 1)) (h : gT g q d (pc + 1) lo (.int (nI (a + b)) :: st) M Q) : gT g q d pc lo (.int (nI b) :: .int (nI a) :: st) M Q := fun n u E hM => N_iadd hd (h n u E hM)
theorem CN_imul {a b : Nat} (hd : decode q.2.1 pc = .ok (.imul, 1)) (h : gT g q d (pc + 1) lo (.int (nI (a * b)) :: st) M Q) : gT g q d pc lo (.int (nI b) :: .int (nI a) :: st) M Q := fun n u E hM => N_imul hd (h n u E hM)
theorem CN_isub {a b : Nat} (hd : decode q.2.1 pc = .ok (.isub, 1)) (hb : b ≤ a) (h : gT g q d (pc + 1) lo (.int (nI (a - b)) :: st) M Q) : gT g q d pc lo (.int (nI b) :: .int (nI a) :: st) M Q := fun n u E hM => N_isub hd hb (h n u E hM)
theorem CN_iinc {i k x : Nat} (hd : decode q.2.1 pc = .ok (.iinc i (k : Int), 3)) (hl : lo[i]? = some (some (.int (nI x)))) (hn : i < q.2.2.1) (hnl : t_nl lo i = true) (h : gT g q d (pc + 3) (lo.set i (some (.int (nI (x + k))))) st M Q) : gT g q d pc lo st M Q := fun n u E hM => N_iinc hd hl hn hnl (h n u E hM)
theorem CN_lt {a b : Nat} {off : Int} {tgt : Nat} (hd : decode q.2.1 pc = .ok (.if_icmp .lt off, 3)) (ht : (pc : Int) + off = (tgt : Int)) (ha : a < 2 ^ 31) (hb : b < 2 ^ 31) (h1 : a < b → gT g q d tgt lo st M Q) (h2 : b ≤ a → gT g q d (pc + 3) lo st M Q) : gT g q d pc lo (.int (nI b) :: .int (nI a) :: st) M Q := fun n u E hM => N_lt hd ht ha hb (fun hz => h1 hz n u E hM) (fun hz => h2 hz n u E hM)
theorem CN_ge {a b : Nat} {off : Int} {tgt : Nat} (hd : decode q.2.1 pc = .ok (.if_icmp .ge off, 3)) (ht : (pc : Int) + off = (tgt : Int)) (ha : a < 2 ^ 31) (hb : b < 2 ^ 31) (h1 : b ≤ a → gT g q d tgt lo st M Q) (h2 : a < b → gT g q d (pc + 3) lo st M Q) : gT g q d pc lo (.int (nI b) :: .int (nI a) :: st) M Q := fun n u E hM => N_ge hd ht ha hb (fun hz => h1 hz n u E hM) (fun hz => h2 hz n u E hM)
theorem CN_gt {a b : Nat} {off : Int} {tgt : Nat} (hd : decode q.2.1 pc = .ok (.if_icmp .gt off, 3)) (ht : (pc : Int) + off = (tgt : Int)) (ha : a < 2 ^ 31) (hb : b < 2 ^ 31) (h1 : b < a → gT g q d tgt lo st M Q) (h2 : a ≤ b → gT g q d (pc + 3) lo st M Q) : gT g q d pc lo (.int (nI b) :: .int (nI a) :: st) M Q := fun n u E hM => N_gt hd ht ha hb (fun hz => h1 hz n u E hM) (fun hz => h2 hz n u E hM)
theorem CN_eq {a b : Nat} {off : Int} {tgt : Nat} (hd : decode q.2.1 pc = .ok (.if_icmp .eq off, 3)) (ht : (pc : Int) + off = (tgt : Int)) (ha : a < 2 ^ 31) (hb : b < 2 ^ 31) (h1 : a = b → gT g q d tgt lo st M Q) (h2 : ¬ a = b → gT g q d (pc + 3) lo st M Q) : gT g q d pc lo (.int (nI b) :: .int (nI a) :: st) M Q := fun n u E hM => N_eq hd ht ha hb (fun hz => h1 hz n u E hM) (fun hz => h2 hz n u E hM)
theorem CN_ne {a b : Nat} {off : Int} {tgt : Nat} (hd : decode q.2.1 pc = .ok (.if_icmp .ne off, 3)) (ht : (pc : Int) + off = (tgt : Int)) (ha : a < 2 ^ 31) (hb : b < 2 ^ 31) (h1 : ¬ a = b → gT g q d tgt lo st M Q) (h2 : a = b → gT g q d (pc + 3) lo st M Q) : gT g q d pc lo (.int (nI b) :: .int (nI a) :: st) M Q := fun n u E hM => N_ne hd ht ha hb (fun hz => h1 hz n u E hM) (fun hz => h2 hz n u E hM)
theorem CB_ne {p : Prop} [Decidable p] {off : Int} {tgt : Nat} (hd : decode q.2.1 pc = .ok (.ifCond .ne off, 3)) (ht : (pc : Int) + off = (tgt : Int)) (h1 : p → gT g q d tgt lo st M Q) (h2 : ¬ p → gT g q d (pc + 3) lo st M Q) : gT g q d pc lo (.int (t_b p) :: st) M Q := fun n u E hM => B_ne hd ht (fun hz => h1 hz n u E hM) (fun hz => h2 hz n u E hM)
theorem CB_eq {p : Prop} [Decidable p] {off : Int} {tgt : Nat} (hd : decode q.2.1 pc = .ok (.ifCond .eq off, 3)) (ht : (pc : Int) + off = (tgt : Int)) (h1 : ¬ p → gT g q d tgt lo st M Q) (h2 : p → gT g q d (pc + 3) lo st M Q) : gT g q d pc lo (.int (t_b p) :: st) M Q := fun n u E hM => B_eq hd ht (fun hz => h1 hz n u E hM) (fun hz => h2 hz n u E hM)
theorem CN_irem {a b : Nat} (hd : decode q.2.1 pc = .ok (.irem, 1)) (ha : a < 2 ^ 31) (hb0 : 0 < b) (hb : b < 2 ^ 31) (h : gT g q d (pc + 1) lo (.int (nI (a % b)) :: st) M Q) : gT g q d pc lo (.int (nI b) :: .int (nI a) :: st) M Q := fun n u E hM => N_irem hd ha hb0 hb (h n u E hM)
theorem C_tabK {dflt lw hi : Int} {offs : Array Int} {len : Nat} {x : Int32} {k : Nat} {off : Int} {tgt : Nat} (hx : x = nI k) (hd : decode q.2.1 pc = .ok (.tableswitch dflt lw hi offs, len)) (h1 : ¬ (nI k).toInt < lw) (h2 : ¬ hi < (nI k).toInt) (ho : offs[((nI k).toInt - lw).toNat]? = some off) (ht : (pc : Int) + off = (tgt : Int)) (h : gT g q d tgt lo st M Q) : gT g q d pc lo (.int x :: st) M Q := fun n u E hM => T_tabK hx hd h1 h2 ho ht (h n u E hM)
theorem C_tabC {dflt lw hi : Int} {offs : Array Int} {len : Nat} {x : Int32} {off : Int} {tgt : Nat} (k : Nat) (hd : decode q.2.1 pc = .ok (.tableswitch dflt lw hi offs, len)) (h1 : ¬ (nI k).toInt < lw) (h2 : ¬ hi < (nI k).toInt) (ho : offs[((nI k).toInt - lw).toNat]? = some off) (ht : (pc : Int) + off = (tgt : Int)) (ha : x = nI k → gT g q d tgt lo st M Q) (hb : ¬ x = nI k → gT g q d pc lo (.int x :: st) M Q) : gT g q d pc lo (.int x :: st) M Q := fun n u E hM => T_tabC k hd h1 h2 ho ht (fun hz => ha hz n u E hM) (fun hz => hb hz n u E hM)
end GL
/-- rows that are given anew -/
def upr (t : s_S) (a : Nat) (F : Nat → Int32) : s_S := fun b => if b = a then F else t b
theorem upr_a (t : s_S) (a : Nat) (F : Nat → Int32) : upr t a F a = F := if_pos rfl
theorem upr_ne {t : s_S} {a b : Nat} {F : Nat → Int32} (h : b ≠ a) : upr t a F b = t b := if_neg h
def c_en (M : g_M) (c : c_G) (P : Nat → Nat) (e : Nat → c_e) (S : c_S) : Prop := ∀ n u E, M n u E → cMx c P e S n u E
theorem c_en0 {c : c_G} {P : Nat → Nat} {e : Nat → c_e} {S : c_S} : c_en (cMx c P e S) c P e S := fun _ _ _ h => h
/-- a method that leaves the memory as it is, and answers v -/
def cQ (c : c_G) (q : t_MI) (d : Nat) (as : List Value) (S : c_S) (v : Option Value) : Prop := ∀ (P : Nat → Nat) (e : Nat → c_e) (n u : Nat) (E : t_M), cMx c P e S n u E → tC (c_g c) q d as n u E (fun v' n' u' E' => v' = v ∧ n' = n ∧ u' = u ∧ E' = E)
/-- a method that answers v and makes S' of S -/
def cF (c : c_G) (q : t_MI) (d : Nat) (as : List Value) (S : c_S) (v : Option Value) (S' : c_S) : Prop := ∀ (P : Nat → Nat) (e : Nat → c_e) (n u : Nat) (E : t_M), cMx c P e S n u E → tC (c_g c) q d as n u E (fun v' n' u' E' => v' = v ∧ cM c S' n' u' E')
abbrev m_ex (n u : Nat) (E : t_M) : g_M := fun n' u' E' => n' = n ∧ u' = u ∧ E' = E
abbrev q_ex (v : Option Value) (n u : Nat) (E : t_M) : t_Q := fun v' n' u' E' => v' = v ∧ n' = n ∧ u' = u ∧ E' = E
abbrev q_cM (v : Option Value) (c : c_G) (S : c_S) : t_Q := fun v' n' u' E' => v' = v ∧ cM c S n' u' E'
theorem cQ_of {c : c_G} {q : t_MI} {d : Nat} {as : List Value} {lo : List (Option Value)} {S : c_S} {v : Option Value} (k : Nat) (hy : plainName q.1.cls = true) (hl : (lg_sl as).length ≤ q.2.2.1) (hlo : lo = t_lo as ++ List.replicate k none) (h : ∀ (P : Nat → Nat) (e : Nat → c_e) (n u : Nat) (E : t_M), c_en (m_ex n u E) c P e S → gT (c_g c) q d 0 lo [] (m_ex n u E) (q_ex v n u E)) : cQ c q d as S v := fun P e n u E hM => tC_of k hy hl hlo (h P e n u E (by rintro _ _ _ ⟨rfl, rfl, rfl⟩; exact hM) n u E ⟨rfl, rfl, rfl⟩)
theorem cF_of {c : c_G} {q : t_MI} {d : Nat} {as : List Value} {lo : List (Option Value)} {S S' : c_S} {v : Option Value} (k : Nat) (hy : plainName q.1.cls = true) (hl : (lg_sl as).length ≤ q.2.2.1) (hlo : lo = t_lo as ++ List.replicate k none) (h : ∀ (P : Nat → Nat) (e : Nat → c_e), gT (c_g c) q d 0 lo [] (cMx c P e S) (q_cM v c S')) : cF c q d as S v S' := fun P e n u E hM => tC_of k hy hl hlo (h P e n u E hM)
section CR
variable {c : c_G} {q : t_MI} {d pc : Nat} {lo : List (Option Value)} {st : List Value} {M : g_M} {Q : t_Q} {P : Nat → Nat} {e : Nat → c_e} {S : c_S}
theorem C_getf {w k ci f idx : Nat} {t : s_S} {fs : List Value} {v : Value} (hM : c_en M c P e S) (hw : c_ok c w) (hS : S w = t) (hk : k < 24 ∧ k ≠ 7) (hd : decode q.2.1 pc = .ok (.getfield idx, 3)) (hf : t_FL q.1.cls idx ci f) (hc : c_cell (c_g c) (c_B c w) (P w) (e w) t k = .inr (ci, fs)) (hv : fs[f]? = some v) (h : gT (c_g c) q d (pc + 3) lo (v :: st) M Q) : gT (c_g c) q d pc lo (.ref (c_B c w + k) :: st) M Q := fun n u E hm => by
  have h1 := (hM n u E hm).at hw k hk.1 hk.2
  rw [hS, hc] at h1
  exact T_getf hd hf h1.1 h1.2 hv (h n u E hm)
theorem C_putf {w k ci f idx a i : Nat} {t : s_S} {S' : c_S} {fs : List Value} {x : Int32} {ty : FieldType} (hw : c_ok c w) (hS : S w = t) (hk : k < 24 ∧ k ≠ 7) (hd : decode q.2.1 pc = .ok (.putfield idx, 3)) (hf : t_FP q.1.cls idx ci f ty false) (hc : c_cell (c_g c) (c_B c w) (P w) (e w) t k = .inr (ci, fs)) (hs : c_cell (c_g c) (c_B c w) (P w) (e w) (up2 t a i x) k = .inr (ci, fs.set f (.int x))) (ho : c_ow a i = k) (ha : a ≠ 2 ∧ a ≠ 151) (hn : narrow ty (.int x) = .int x) (hfit : fits ty (.int x) = true) (hlen : f < fs.length) (hS' : upw S w (up2 t a i x) = S') (h : gT (c_g c) q d (pc + 3) lo st (cMx c P e S') Q) : gT (c_g c) q d pc lo (.int x :: .ref (c_B c w + k) :: st) (cMx c P e S) Q := fun n u E hm => by
  have h1 := hm.at hw k hk.1 hk.2
  subst hS
  rw [hc] at h1
  refine T_putf hd hf h1.1 h1.2 hn hfit hlen (h n u _ ?_)
  have h2 := hm.up hw.1 hw.2 hk.1 ho ha hs
  unfold c_ad at h2
  rw [if_pos hw.2, if_neg hk.2, hS'] at h2
  exact h2
/-- letters.count, never more than it was -/
theorem C_putc {w f idx : Nat} {t : s_S} {S' : c_S} {x : Int32} (hw : c_ok c w) (hS : S w = t) (hd : decode q.2.1 pc = .ok (.putfield idx, 3)) (hf : t_FP q.1.cls idx 2 1 .int false) (hle : s_n x ≤ s_n (t 2 0)) (hS' : upw S w (up2 t 2 0 x) = S') (h : gT (c_g c) q d (pc + 3) lo st (cMx c P e S') Q) : gT (c_g c) q d pc lo (.int x :: .ref (c_B c w + 6) :: st) (cMx c P e S) Q := fun n u E hm => by
  have h1 := hm.at hw 6 (by decide) (by decide)
  subst hS
  refine T_putf hd hf h1.1 h1.2 rfl rfl (by show 1 < 2; decide) (h n u _ ?_)
  have h2 := hm.df hw.1 hw.2 (k := 6) (by decide) (t := up2 (S w) 2 0 x) (fun b j hb => by
    rw [up2_ap, if_neg]
    rintro ⟨rfl, rfl⟩
    exact hb rfl) (by rw [up2_self]; exact hle) (fun _ _ => by rw [up2_ne (by decide)]) rfl
  unfold c_ad at h2
  rw [if_pos hw.2, if_neg (by decide), hS'] at h2
  exact h2
theorem C_iald {w k N a j : Nat} {t : s_S} {x : Int32} {jj : Nat} (hjj : jj = j) (hM : c_en M c P e S) (hw : c_ok c w) (hS : S w = t) (hk : k < 24 ∧ k ≠ 7) (hd : decode q.2.1 pc = .ok (.iaload, 1)) (hc : c_cell (c_g c) (c_B c w) (P w) (e w) t k = .inl (t_cI (c_g c), N, .inl (t a))) (hj : j < N) (hN : N < 2 ^ 31) (hx : t a j = x) (h : gT (c_g c) q d (pc + 1) lo (.int x :: st) M Q) : gT (c_g c) q d pc lo (.int (nI jj) :: .ref (c_B c w + k) :: st) M Q := fun n u E hm => by
  have hjj2 := hjj.symm
  subst hjj2
  have h1 := (hM n u E hm).at hw k hk.1 hk.2
  rw [hS, hc] at h1
  subst hx
  exact N_iald hd h1.1 h1.2 hj hN (h n u E hm)
theorem C_iast {w k N a j : Nat} {t : s_S} {S' : c_S} {x : Int32} {jj : Nat} (hjj : jj = j) (hw : c_ok c w) (hS : S w = t) (hk : k < 24 ∧ k ≠ 7) (hd : decode q.2.1 pc = .ok (.iastore, 1)) (hc : c_cell (c_g c) (c_B c w) (P w) (e w) t k = .inl (t_cI (c_g c), N, .inl (t a))) (hs : c_cell (c_g c) (c_B c w) (P w) (e w) (up2 t a j x) k = .inl (t_cI (c_g c), N, .inl (upd (t a) j x))) (ho : c_ow a j = k) (ha : a ≠ 2 ∧ a ≠ 151) (hj : j < N) (hN : N < 2 ^ 31) (hS' : upw S w (up2 t a j x) = S') (h : gT (c_g c) q d (pc + 1) lo st (cMx c P e S') Q) : gT (c_g c) q d pc lo (.int x :: .int (nI jj) :: .ref (c_B c w + k) :: st) (cMx c P e S) Q := fun n u E hm => by
  have hjj2 := hjj.symm
  subst hjj2
  have h1 := hm.at hw k hk.1 hk.2
  subst hS
  rw [hc] at h1
  refine N_iast hd h1.1 h1.2 hj hN (h n u _ ?_)
  have h2 := hm.up hw.1 hw.2 hk.1 ho ha hs
  unfold c_ad at h2
  rw [if_pos hw.2, if_neg hk.2, hS'] at h2
  exact h2
/-- a node out of the row of nodes -/
theorem C_node {w j : Nat} (hM : c_en M c P e S) (hw : c_ok c w) (hd : decode q.2.1 pc = .ok (.aaload, 1)) (hj : j < 8) (h : gT (c_g c) q d (pc + 1) lo (.ref (c_B c w + (j + 16)) :: st) M Q) : gT (c_g c) q d pc lo (.int (nI j) :: .ref (c_B c w + 1) :: st) M Q := fun n u E hm => by
  have h1 := (hM n u E hm).at hw 1 (by decide) (by decide)
  exact N_aald (t0 := 2) rfl hd h1.1 h1.2 hj (by decide) (if_pos hj) (h n u E hm)
theorem C_alen {w k : Nat} {t : s_S} {x : vp_A} (hM : c_en M c P e S) (hw : c_ok c w) (hS : S w = t) (hk : k < 24 ∧ k ≠ 7) (hd : decode q.2.1 pc = .ok (.arraylength, 1)) (hc : c_cell (c_g c) (c_B c w) (P w) (e w) t k = .inl (t_cI (c_g c), x)) (h : gT (c_g c) q d (pc + 1) lo (.int (nI x.1) :: st) M Q) : gT (c_g c) q d pc lo (.ref (c_B c w + k) :: st) M Q := fun n u E hm => by
  have h1 := (hM n u E hm).at hw k hk.1 hk.2
  rw [hS, hc] at h1
  exact T_alen (t0 := 0) rfl hd h1.1 h1.2 (h n u E hm)
/-! the row of letters, at P w -/
theorem c_cap_lt {x : c_e} (h : x.1 ≤ 6) : c_cap x ≤ 24576 := by
  unfold c_cap
  have : (2 : Nat) ^ x.1 ≤ 2 ^ 6 := Nat.pow_le_pow_right (by decide) h
  have e5 : (2 : Nat) ^ 6 = 64 := by decide
  omega
/-- the letters' row rewritten at a place -/
def c_eu (e : Nat → c_e) (w : Nat) (F : Nat → Int32) : Nat → c_e := fun k => if k = w then ((e w).1, F) else e k
theorem c_eu_self (e : Nat → c_e) (w : Nat) (F : Nat → Int32) : c_eu e w F w = ((e w).1, F) := if_pos rfl
theorem c_eu_ne {e : Nat → c_e} {w k : Nat} {F : Nat → Int32} (h : k ≠ w) : c_eu e w F k = e k := if_neg h
theorem c_eu_1 (e : Nat → c_e) (w : Nat) (F : Nat → Int32) (k : Nat) : (c_eu e w F k).1 = (e k).1 := by
  by_cases h : k = w
  · subst h; rw [c_eu_self]
  · rw [c_eu_ne h]
/-- a store into the row of letters: its content F; the abstract row as t has it -/
theorem cMx.pst {n u : Nat} {E : t_M} {w : Nat} {t : s_S} {F : Nat → Int32} (hm : cMx c P e S n u E) (hw : c_ok c w) (hdf : ∀ b j, b ≠ 151 → t b j = S w b j) (hF : ∀ j, j < 8 * s_n (S w 2 0) → F j = t 151 j) : cMx c P (c_eu e w F) (upw S w t) n u (va_up E (P w) (.inl (t_cI (c_g c), c_cap (e w), .inl F))) := by
  obtain ⟨h1, hc, hi, hl, he, hn, hu, hFr⟩ := hm
  have hv7 : c_v c w 7 := ⟨hw.1, by have := hw.2; omega, by unfold c_nk; rw [if_pos hw.2]; decide⟩
  have had : c_ad c P w 7 = P w := by unfold c_ad; rw [if_pos hw.2, if_pos rfl]
  have h20 : t 2 0 = S w 2 0 := hdf 2 0 (by decide)
  refine ⟨fun a ha => ?_, fun w' k' hv' => ?_, hi, fun w' hw' hw5 => ?_, fun k => by rw [c_eu_1]; exact he k, ?_, ?_, hFr⟩
  · have hne : a ≠ P w := fun e9 => (hc w 7 hv7).2.2.2 (by rw [had]; exact e9 ▸ ha)
    rw [va_up_ne _ _ hne]
    exact h1 a ha
  · obtain ⟨c1, c2, c3, c4⟩ := hc w' k' hv'
    refine ⟨?_, c2, c3, c4⟩
    by_cases hwk : w' = w ∧ k' = 7
    · obtain ⟨rfl, rfl⟩ := hwk
      rw [had, va_up_self]
      unfold c_ce
      rw [if_pos hw.2, c_eu_self]
      rfl
    · rw [va_up_ne _ _ (fun e9 => hwk (hi _ _ _ _ hv' hv7 (e9.trans had.symm))), c1]
      unfold c_ce
      by_cases h5 : w' < 5
      · rw [if_pos h5, if_pos h5]
        by_cases hww : w' = w
        · subst hww
          rw [upw_self]
          have hk7 : k' ≠ 7 := fun e9 => hwk ⟨rfl, e9⟩
          refine (c_cell_eq (x := e w') (t := S w') (t2 := t) fun b j hb => ?_).symm.trans ?_
          · refine hdf b j (fun e9 => ?_)
            subst e9
            have : k' < 24 := by have := hv'.2.2; unfold c_nk at this; rw [if_pos h5] at this; exact this
            have h100 : c_ow 151 j = 100 := rfl
            omega
          · rw [c_eu_self]
            match k', hk7 with
            | 0, _ => rfl
            | 1, _ => rfl
            | 2, _ => rfl
            | 3, _ => rfl
            | 4, _ => rfl
            | 5, _ => rfl
            | 6, _ => rfl
            | 8, _ => rfl
            | 9, _ => rfl
            | 10, _ => rfl
            | 11, _ => rfl
            | 12, _ => rfl
            | 13, _ => rfl
            | 14, _ => rfl
            | 15, _ => rfl
            | k9 + 16, _ => rfl
        · rw [upw_ne hww, c_eu_ne hww]
      · rw [if_neg h5, if_neg h5]
        have hww : w' ≠ w := fun e9 => h5 (e9 ▸ hw.2)
        rw [upw_ne hww]
  · by_cases hww : w' = w
    · subst hww
      rw [upw_self, h20]
      refine ⟨by show 8 * s_n (S w' 2 0) ≤ c_cap (c_eu e w' F w'); rw [c_eu_self]; exact (hl w' hw' hw5).1, fun j hj => ?_⟩
      rw [c_eu_self]
      exact hF j hj
    · rw [upw_ne hww, c_eu_ne hww]
      exact hl w' hw' hw5
  · have e9 : (fun k => (c_eu e w F k).1) = fun k => (e k).1 := funext (c_eu_1 e w F)
    rw [e9]; exact hn
  · have e9 : (fun k => 2 * c_cap (c_eu e w F k)) = fun k => 2 * c_cap (e k) := funext fun k => by unfold c_cap; rw [c_eu_1]
    rw [e9]; exact hu
theorem C_pald {w j : Nat} {t : s_S} {x : Int32} {jj : Nat} (hjj : jj = j) (hM : c_en M c P e S) (hw : c_ok c w) (hS : S w = t) (hd : decode q.2.1 pc = .ok (.iaload, 1)) {m : Nat} (hm1 : t 2 0 = nI m) (hmm : m < 2 ^ 31) (hj : j < 8 * m) (hx : t 151 j = x) (h : gT (c_g c) q d (pc + 1) lo (.int x :: st) M Q) : gT (c_g c) q d pc lo (.int (nI jj) :: .ref (P w) :: st) M Q := fun n u E hm => by
  have hjj2 := hjj.symm
  subst hjj2
  have hm2 := hM n u E hm
  have h1 := hm2.at7 hw
  have h2 := hm2.2.2.2.1 w hw.1 hw.2
  have h3 := c_cap_lt (hm2.2.2.2.2.1 w)
  rw [hS, s_n_eq hm1 hmm] at h2
  subst hx
  have h4 := N_iald hd h1.1 h1.2 (k := j) (by omega) (by omega) (lo := lo) (st := st) (Q := Q) (u := u) (g := c_g c) (d := d)
  rw [h2.2 j hj] at h4
  exact h4 (h n u E hm)
/-- a store among the letters that are there -/
theorem C_past {w j : Nat} {t : s_S} {S' : c_S} {x : Int32} {jj : Nat} (hjj : jj = j) (hw : c_ok c w) (hS : S w = t) (hd : decode q.2.1 pc = .ok (.iastore, 1)) {m : Nat} (hm1 : t 2 0 = nI m) (hmm : m < 2 ^ 31) (hj : j < 8 * m) (hS' : upw S w (up2 t 151 j x) = S') (h : ∀ e : Nat → c_e, gT (c_g c) q d (pc + 1) lo st (cMx c P e S') Q) : gT (c_g c) q d pc lo (.int x :: .int (nI jj) :: .ref (P w) :: st) (cMx c P e S) Q := fun n u E hm => by
  have hjj2 := hjj.symm
  subst hjj2
  have h1 := hm.at7 hw
  have h2 := hm.2.2.2.1 w hw.1 hw.2
  have h3 := c_cap_lt (hm.2.2.2.2.1 w)
  subst hS
  have hsn := s_n_eq hm1 hmm
  rw [hsn] at h2
  refine N_iast hd h1.1 h1.2 (by omega) (by omega) (h (c_eu e w (upd (e w).2 j x)) n u _ ?_)
  rw [← hS']
  refine hm.pst hw (fun b i hb => by rw [up2_ne hb]) (fun i hi => ?_)
  rw [hsn] at hi
  rw [up2_a]
  by_cases hij : i = j
  · subst hij; rw [pk_us, pk_us]
  · rw [pk_un hij, pk_un hij]; exact h2.2 i hi
/-- a store behind the letters that are there: nothing is seen of it yet -/
theorem C_pastx {w j : Nat} {x : Int32} {jj : Nat} (hjj : jj = j) (hw : c_ok c w) (hd : decode q.2.1 pc = .ok (.iastore, 1)) {m : Nat} (hm1 : S w 2 0 = nI m) (hmm : m < 2 ^ 31) (hj : 8 * m ≤ j) (hj2 : j < c_cap (e w)) (h : gT (c_g c) q d (pc + 1) lo st (cMx c P (c_eu e w (upd (e w).2 j x)) S) Q) : gT (c_g c) q d pc lo (.int x :: .int (nI jj) :: .ref (P w) :: st) (cMx c P e S) Q := fun n u E hm => by
  have hjj2 := hjj.symm
  subst hjj2
  have h1 := hm.at7 hw
  have h2 := hm.2.2.2.1 w hw.1 hw.2
  have h3 := c_cap_lt (hm.2.2.2.2.1 w)
  have hsn := s_n_eq hm1 hmm
  refine N_iast hd h1.1 h1.2 hj2 (by omega) (h n u _ ?_)
  have h4 := hm.pst hw (t := S w) (F := upd (e w).2 j x) (fun _ _ _ => rfl) (fun i hi => by
    rw [hsn] at hi
    rw [pk_un (by omega)]
    exact h2.2 i (by rw [hsn]; exact hi))
  rw [upw_same] at h4
  exact h4
theorem C_plen {w : Nat} (hM : c_en M c P e S) (hw : c_ok c w) (hd : decode q.2.1 pc = .ok (.arraylength, 1)) (h : gT (c_g c) q d (pc + 1) lo (.int (nI (c_cap (e w))) :: st) M Q) : gT (c_g c) q d pc lo (.ref (P w) :: st) M Q := fun n u E hm => by
  have h1 := (hM n u E hm).at7 hw
  exact T_alen (t0 := 0) rfl hd h1.1 h1.2 (h n u E hm)
/-! the object and its tape -/
theorem C_get5 {k ci f idx : Nat} {t : s_S} {fs : List Value} {v : Value} (hM : c_en M c P e S) (hL : c_L c 5) (hS : S 5 = t) (hk : k < 3) (hd : decode q.2.1 pc = .ok (.getfield idx, 3)) (hf : t_FL q.1.cls idx ci f) (hc : c_oc (c_g c) (c_B c) t k = .inr (ci, fs)) (hv : fs[f]? = some v) (h : gT (c_g c) q d (pc + 3) lo (v :: st) M Q) : gT (c_g c) q d pc lo (.ref (c_B c 5 + k) :: st) M Q := fun n u E hm => by
  have h1 := (hM n u E hm).at5 hL k hk
  rw [hS, hc] at h1
  exact T_getf hd hf h1.1 h1.2 hv (h n u E hm)
theorem C_put5 {k ci f idx a : Nat} {t : s_S} {S' : c_S} {fs : List Value} {x : Int32} (hL : c_L c 5) (hS : S 5 = t) (hk : k < 3) (hd : decode q.2.1 pc = .ok (.putfield idx, 3)) (hf : t_FP q.1.cls idx ci f .int false) (hc : c_oc (c_g c) (c_B c) t k = .inr (ci, fs)) (hs : c_oc (c_g c) (c_B c) (up2 t a 0 x) k = .inr (ci, fs.set f (.int x))) (ho : c_ow5 a = k) (ha : a ≠ 2 ∧ a ≠ 151) (hlen : f < fs.length) (hS' : upw S 5 (up2 t a 0 x) = S') (h : gT (c_g c) q d (pc + 3) lo st (cMx c P e S') Q) : gT (c_g c) q d pc lo (.int x :: .ref (c_B c 5 + k) :: st) (cMx c P e S) Q := fun n u E hm => by
  have h1 := hm.at5 hL k hk
  subst hS
  rw [hc] at h1
  refine T_putf hd hf h1.1 h1.2 rfl rfl hlen (h n u _ ?_)
  have h2 := hm.up5 hL (by omega) ho ha hs
  unfold c_ad at h2
  rw [if_neg (by decide), if_neg (by omega), hS'] at h2
  exact h2
theorem C_ald5 {j : Nat} {t : s_S} {x : Int32} (hM : c_en M c P e S) (hL : c_L c 5) (hS : S 5 = t) (hd : decode q.2.1 pc = .ok (.iaload, 1)) (hj : j < 600) (hx : t 10 j = x) (h : gT (c_g c) q d (pc + 1) lo (.int x :: st) M Q) : gT (c_g c) q d pc lo (.int (nI j) :: .ref (c_B c 5 + 2) :: st) M Q := fun n u E hm => by
  have h1 := (hM n u E hm).at5 hL 2 (by decide)
  subst hS hx
  exact N_iald hd h1.1 h1.2 hj (by decide) (h n u E hm)
theorem C_ast5 {j : Nat} {t : s_S} {S' : c_S} {x : Int32} (hL : c_L c 5) (hS : S 5 = t) (hd : decode q.2.1 pc = .ok (.iastore, 1)) (hj : j < 600) (hS' : upw S 5 (up2 t 10 j x) = S') (h : gT (c_g c) q d (pc + 1) lo st (cMx c P e S') Q) : gT (c_g c) q d pc lo (.int x :: .int (nI j) :: .ref (c_B c 5 + 2) :: st) (cMx c P e S) Q := fun n u E hm => by
  have h1 := hm.at5 hL 2 (by decide)
  subst hS
  refine N_iast hd h1.1 h1.2 hj (by decide) (h n u _ ?_)
  have h2 := hm.up5 hL (k := 2) (a := 10) (i := j) (by decide) rfl (by decide) (x := x) rfl
  unfold c_ad at h2
  rw [if_neg (by decide), if_neg (by decide), hS'] at h2
  exact h2
theorem C_mark {j : Nat} (hM : c_en M c P e S) (hL : c_L c 5) (hd : decode q.2.1 pc = .ok (.aaload, 1)) (hj : j < 3) (h : gT (c_g c) q d (pc + 1) lo (.ref (c_B c (2 + j)) :: st) M Q) : gT (c_g c) q d pc lo (.int (nI j) :: .ref (c_B c 6) :: st) M Q := fun n u E hm => by
  have h1 := (hM n u E hm).at53 hL
  exact N_aald (t0 := 3) rfl hd h1.1 h1.2 hj (by decide) (if_pos hj) (h n u E hm)
/-! calls -/
def c_rc (c : c_G) (P : Nat → Nat) (e : Nat → c_e) (S : c_S) (b ci : Nat) : Prop := ∀ (n u : Nat) (E : t_M), cMx c P e S n u E → (t_z (c_g c) ≤ b ∧ b < t_z (c_g c) + n) ∧ ∃ fs : List Value, E b = .inr (ci, fs)
theorem c_rcw {w k ci : Nat} {fs : List Value} (hw : c_ok c w) (hk : k < 24 ∧ k ≠ 7) (hc : c_cell (c_g c) (c_B c w) (P w) (e w) (S w) k = .inr (ci, fs)) : c_rc c P e S (c_B c w + k) ci := fun n u E hm => by
  have h1 := hm.at hw k hk.1 hk.2
  rw [hc] at h1
  exact ⟨h1.1, fs, h1.2⟩
theorem c_rc5 {k ci : Nat} {fs : List Value} (hL : c_L c 5) (hk : k < 3) (hc : c_oc (c_g c) (c_B c) (S 5) k = .inr (ci, fs)) : c_rc c P e S (c_B c 5 + k) ci := fun n u E hm => by
  have h1 := hm.at5 hL k hk
  rw [hc] at h1
  exact ⟨h1.1, fs, h1.2⟩
theorem C_callQ {idx k b ci d' : Nat} {q' : t_MI} {As st' stk : List Value} {r : vw_C} {v : Option Value} (hM : c_en M c P e S) (hrc : c_rc c P e S b ci) (hd : decode q.2.1 pc = .ok (.invokevirtual idx, 3)) (hm : t_Mv q' k) (hl : Cond.methodLink q.1.cls idx q'.1 ∈ tw) (hC : cQ c q' d' (.ref b :: As) S v) (hc : vwCl[ci]? = some r) (hcl : r.1 = q'.1.cls) (hk : As.length = k) (hdd : d' + 1 ≤ d) (hst : (st'.map fun v => v.category).sum ≤ 8) (hs : stk = As.reverse ++ .ref b :: st') (h : gT (c_g c) q d (pc + 3) lo (v.toList ++ st') M Q) : gT (c_g c) q d pc lo stk M Q := fun n u E hz => by
  obtain ⟨h1, fs, h2⟩ := hrc n u E (hM n u E hz)
  refine T_callV hd hm hl hk h1 h2 hc hcl hdd hst hs (hC P e n u E (hM n u E hz)) ?_
  rintro _ _ _ _ ⟨rfl, rfl, rfl, rfl⟩
  exact h _ _ _ hz
theorem C_callF {idx k b ci d' : Nat} {q' : t_MI} {As st' stk : List Value} {r : vw_C} {v : Option Value} {S' : c_S} (hrc : c_rc c P e S b ci) (hd : decode q.2.1 pc = .ok (.invokevirtual idx, 3)) (hm : t_Mv q' k) (hl : Cond.methodLink q.1.cls idx q'.1 ∈ tw) (hC : cF c q' d' (.ref b :: As) S v S') (hc : vwCl[ci]? = some r) (hcl : r.1 = q'.1.cls) (hk : As.length = k) (hdd : d' + 1 ≤ d) (hst : (st'.map fun v => v.category).sum ≤ 8) (hs : stk = As.reverse ++ .ref b :: st') (h : ∀ (P : Nat → Nat) (e : Nat → c_e), gT (c_g c) q d (pc + 3) lo (v.toList ++ st') (cMx c P e S') Q) : gT (c_g c) q d pc lo stk (cMx c P e S) Q := fun n u E hz => by
  obtain ⟨h1, fs, h2⟩ := hrc n u E hz
  refine T_callV hd hm hl hk h1 h2 hc hcl hdd hst hs (hC P e n u E hz) ?_
  rintro _ n' u' E' ⟨rfl, P', e', h9⟩
  exact h P' e' n' u' E' h9
theorem C_callQi {idx k b ci d' : Nat} {q' : t_MI} {As st' stk : List Value} {r : vw_C} {x : Int32} (hM : c_en M c P e S) (hrc : c_rc c P e S b ci) (hd : decode q.2.1 pc = .ok (.invokevirtual idx, 3)) (hm : t_Mv q' k) (hl : Cond.methodLink q.1.cls idx q'.1 ∈ tw) (hC : cQ c q' d' (.ref b :: As) S (some (.int x))) (hc : vwCl[ci]? = some r) (hcl : r.1 = q'.1.cls) (hk : As.length = k) (hdd : d' + 1 ≤ d) (hst : (st'.map fun v => v.category).sum ≤ 8) (hs : stk = As.reverse ++ .ref b :: st') (h : gT (c_g c) q d (pc + 3) lo (.int x :: st') M Q) : gT (c_g c) q d pc lo stk M Q := C_callQ hM hrc hd hm hl hC hc hcl hk hdd hst hs h
theorem C_callFi {idx k b ci d' : Nat} {q' : t_MI} {As st' stk : List Value} {r : vw_C} {x : Int32} {S' : c_S} (hrc : c_rc c P e S b ci) (hd : decode q.2.1 pc = .ok (.invokevirtual idx, 3)) (hm : t_Mv q' k) (hl : Cond.methodLink q.1.cls idx q'.1 ∈ tw) (hC : cF c q' d' (.ref b :: As) S (some (.int x)) S') (hc : vwCl[ci]? = some r) (hcl : r.1 = q'.1.cls) (hk : As.length = k) (hdd : d' + 1 ≤ d) (hst : (st'.map fun v => v.category).sum ≤ 8) (hs : stk = As.reverse ++ .ref b :: st') (h : ∀ (P : Nat → Nat) (e : Nat → c_e), gT (c_g c) q d (pc + 3) lo (.int x :: st') (cMx c P e S') Q) : gT (c_g c) q d pc lo stk (cMx c P e S) Q := C_callF hrc hd hm hl hC hc hcl hk hdd hst hs h
theorem C_callFv {idx k b ci d' : Nat} {q' : t_MI} {As st' stk : List Value} {r : vw_C} {S' : c_S} (hrc : c_rc c P e S b ci) (hd : decode q.2.1 pc = .ok (.invokevirtual idx, 3)) (hm : t_Mv q' k) (hl : Cond.methodLink q.1.cls idx q'.1 ∈ tw) (hC : cF c q' d' (.ref b :: As) S none S') (hc : vwCl[ci]? = some r) (hcl : r.1 = q'.1.cls) (hk : As.length = k) (hdd : d' + 1 ≤ d) (hst : (st'.map fun v => v.category).sum ≤ 8) (hs : stk = As.reverse ++ .ref b :: st') (h : ∀ (P : Nat → Nat) (e : Nat → c_e), gT (c_g c) q d (pc + 3) lo st' (cMx c P e S') Q) : gT (c_g c) q d pc lo stk (cMx c P e S) Q := C_callF hrc hd hm hl hC hc hcl hk hdd hst hs h
/-- a static call that leaves all memory -/
theorem C_calls {idx k d' : Nat} {q' : t_MI} {As st' stk : List Value} {x : Int32} (hd : decode q.2.1 pc = .ok (.invokestatic idx, 3)) (hm : t_Ms q' k) (hl : Cond.methodLink q.1.cls idx q'.1 ∈ tw) (hC : ∀ n u E, tC (c_g c) q' d' As n u E (ri0 n u (fun r E' => r = x ∧ E' = E))) (hk : As.length = k) (hdd : d' + 1 ≤ d) (hst : (st'.map fun v => v.category).sum ≤ 8) (hs : stk = As.reverse ++ st') (h : gT (c_g c) q d (pc + 3) lo (.int x :: st') M Q) : gT (c_g c) q d pc lo stk M Q := fun n u E hz => T_calls hd hm hl (hC n u E) hk hdd hst hs (h n u E hz)
theorem C_callsN {idx k d' : Nat} {host : String} {q' : t_MI} {As st' stk : List Value} {x : Int32} (hd : decode q.2.1 pc = .ok (.invokestatic idx, 3)) (hm : t_Ms q' k) (hl : Cond.methodLinkNest q.1.cls idx q'.1 host ∈ tables_1) (hC : ∀ n u E, tC (c_g c) q' d' As n u E (ri0 n u (fun r E' => r = x ∧ E' = E))) (hk : As.length = k) (hdd : d' + 1 ≤ d) (hst : (st'.map fun v => v.category).sum ≤ 8) (hs : stk = As.reverse ++ st') (h : gT (c_g c) q d (pc + 3) lo (.int x :: st') M Q) : gT (c_g c) q d pc lo stk M Q := fun n u E hz => T_callsN hd hm hl (hC n u E) hk hdd hst hs (h n u E hz)
theorem C_norm {a b : Nat} (hab : a = b) (h : gT (c_g c) q d pc lo (.int (nI b) :: st) M Q) : gT (c_g c) q d pc lo (.int (nI a) :: st) M Q := hab ▸ h
/-! ends -/
theorem C_qret {x : Int32} {ty : FieldType} {v : Option Value} {n u : Nat} {E : t_M} (hd : decode q.2.1 pc = .ok (.ireturn, 1)) (hr : q.2.2.2 = some ty) (hn : narrow ty (.int x) = .int x) (hv : some (.int x) = v) : gT (c_g c) q d pc lo [.int x] (m_ex n u E) (q_ex v n u E) := by
  rintro _ _ _ ⟨rfl, rfl, rfl⟩
  exact T_ireturn hd hr hn ⟨hv, rfl, rfl, rfl⟩
theorem C_fret {x : Int32} {ty : FieldType} {v : Option Value} {S' : c_S} (hd : decode q.2.1 pc = .ok (.ireturn, 1)) (hr : q.2.2.2 = some ty) (hn : narrow ty (.int x) = .int x) (hv : some (.int x) = v) (hS : S = S') : gT (c_g c) q d pc lo [.int x] (cMx c P e S) (q_cM v c S') := fun n u E hm => T_ireturn hd hr hn ⟨hv, P, e, hS ▸ hm⟩
theorem C_vret {S' : c_S} (hd : decode q.2.1 pc = .ok (.return_, 1)) (hr : q.2.2.2 = none) (hS : S = S') : gT (c_g c) q d pc lo [] (cMx c P e S) (q_cM none c S') := fun n u E hm => T_return hd hr ⟨rfl, P, e, hS ▸ hm⟩
theorem C_exret {x : Int32} {ty : FieldType} {v : Option Value} {S' : c_S} (hd : decode q.2.1 pc = .ok (.ireturn, 1)) (hr : q.2.2.2 = some ty) (hn : narrow ty (.int x) = .int x) (hQ : ∀ n u E, M n u E → Q (some (.int x)) n u E) : gT (c_g c) q d pc lo [.int x] M Q := fun n u E hm => T_ireturn hd hr hn (hQ n u E hm)
end CR
theorem nfs_100 (t : s_S) (i : Nat) (x : Int32) : c_nf (up2 t 100 i x) i = (c_nf t i).set 0 (.int x) := by simp [c_nf, up2_ap]
theorem nfs_101 (t : s_S) (i : Nat) (x : Int32) : c_nf (up2 t 101 i x) i = (c_nf t i).set 1 (.int x) := by simp [c_nf, up2_ap]
theorem nfs_102 (t : s_S) (i : Nat) (x : Int32) : c_nf (up2 t 102 i x) i = (c_nf t i).set 2 (.int x) := by simp [c_nf, up2_ap]
theorem nfs_103 (t : s_S) (i : Nat) (x : Int32) : c_nf (up2 t 103 i x) i = (c_nf t i).set 3 (.int x) := by simp [c_nf, up2_ap]
theorem nfs_104 (t : s_S) (i : Nat) (x : Int32) : c_nf (up2 t 104 i x) i = (c_nf t i).set 4 (.int x) := by simp [c_nf, up2_ap]
theorem nfs_105 (t : s_S) (i : Nat) (x : Int32) : c_nf (up2 t 105 i x) i = (c_nf t i).set 5 (.int x) := by simp [c_nf, up2_ap]
theorem nfs_106 (t : s_S) (i : Nat) (x : Int32) : c_nf (up2 t 106 i x) i = (c_nf t i).set 6 (.int x) := by simp [c_nf, up2_ap]
theorem nfs_107 (t : s_S) (i : Nat) (x : Int32) : c_nf (up2 t 107 i x) i = (c_nf t i).set 7 (.int x) := by simp [c_nf, up2_ap]
theorem nfs_108 (t : s_S) (i : Nat) (x : Int32) : c_nf (up2 t 108 i x) i = (c_nf t i).set 8 (.int x) := by simp [c_nf, up2_ap]
theorem nfs_109 (t : s_S) (i : Nat) (x : Int32) : c_nf (up2 t 109 i x) i = (c_nf t i).set 9 (.int x) := by simp [c_nf, up2_ap]
theorem nfs_110 (t : s_S) (i : Nat) (x : Int32) : c_nf (up2 t 110 i x) i = (c_nf t i).set 10 (.int x) := by simp [c_nf, up2_ap]
theorem nfs_116 (t : s_S) (i : Nat) (x : Int32) : c_nf (up2 t 116 i x) i = (c_nf t i).set 11 (.int x) := by simp [c_nf, up2_ap]
theorem nfs_117 (t : s_S) (i : Nat) (x : Int32) : c_nf (up2 t 117 i x) i = (c_nf t i).set 12 (.int x) := by simp [c_nf, up2_ap]
theorem nfs_111 (t : s_S) (i : Nat) (x : Int32) : c_nf (up2 t 111 i x) i = (c_nf t i).set 13 (.int x) := by simp [c_nf, up2_ap]
theorem nfs_112 (t : s_S) (i : Nat) (x : Int32) : c_nf (up2 t 112 i x) i = (c_nf t i).set 14 (.int x) := by simp [c_nf, up2_ap]
theorem nfs_113 (t : s_S) (i : Nat) (x : Int32) : c_nf (up2 t 113 i x) i = (c_nf t i).set 15 (.int x) := by simp [c_nf, up2_ap]
theorem nfs_114 (t : s_S) (i : Nat) (x : Int32) : c_nf (up2 t 114 i x) i = (c_nf t i).set 16 (.int x) := by simp [c_nf, up2_ap]
theorem nfs_115 (t : s_S) (i : Nat) (x : Int32) : c_nf (up2 t 115 i x) i = (c_nf t i).set 17 (.int x) := by simp [c_nf, up2_ap]
