section TR
variable {g : t_G} {q : t_MI} {d pc : Nat} {lo : List (Option Value)} {st : List Value} {n u : Nat} {E : t_M} {Q : t_Q}
theorem T_idiv {x y : Int32} (hd : decode q.2.1 pc = .ok (.idiv, 1)) (hne : ¬ y = 0) (h : tT g q d (pc + 1) lo (.int (x / y) :: st) n u E Q) : tT g q d pc lo (.int y :: .int x :: st) n u E Q :=
  T_pure (fun _ _ _ _ _ _ _ _ _ _ _ _ _ _ _ C hR hlow hL k => lv_idiv C.1 C.2.1 hd hne k) h
theorem T_irem {x y : Int32} (hd : decode q.2.1 pc = .ok (.irem, 1)) (hne : ¬ y = 0) (h : tT g q d (pc + 1) lo (.int (x - x / y * y) :: st) n u E Q) : tT g q d pc lo (.int y :: .int x :: st) n u E Q :=
  T_pure (fun _ _ _ _ _ _ _ _ _ _ _ _ _ _ _ C hR hlow hL k => lv_irem C.1 C.2.1 hd hne k) h
theorem T_ineg {x : Int32} (hd : decode q.2.1 pc = .ok (.ineg, 1)) (h : tT g q d (pc + 1) lo (.int (-x) :: st) n u E Q) : tT g q d pc lo (.int x :: st) n u E Q :=
  T_pure (fun _ _ _ _ _ _ _ _ _ _ _ _ _ _ _ C hR hlow hL k => lv_ineg C.1 C.2.1 hd k) h
theorem T_ishl {x y : Int32} (hd : decode q.2.1 pc = .ok (.ishl, 1)) (h : tT g q d (pc + 1) lo (.int (x <<< (y &&& 31)) :: st) n u E Q) : tT g q d pc lo (.int y :: .int x :: st) n u E Q :=
  T_pure (fun _ _ _ _ _ _ _ _ _ _ _ _ _ _ _ C hR hlow hL k => lv_ishl C.1 C.2.1 hd k) h
theorem T_ishr {x y : Int32} (hd : decode q.2.1 pc = .ok (.ishr, 1)) (h : tT g q d (pc + 1) lo (.int (x >>> (y &&& 31)) :: st) n u E Q) : tT g q d pc lo (.int y :: .int x :: st) n u E Q :=
  T_pure (fun _ _ _ _ _ _ _ _ _ _ _ _ _ _ _ C hR hlow hL k => lv_ishr C.1 C.2.1 hd k) h
theorem T_iushr {x y : Int32} (hd : decode q.2.1 pc = .ok (.iushr, 1)) (h : tT g q d (pc + 1) lo (.int (x.toUInt32 >>> (y.toUInt32 &&& Int32.toUInt32 31)).toInt32 :: st) n u E Q) : tT g q d pc lo (.int y :: .int x :: st) n u E Q :=
  T_pure (fun _ _ _ _ _ _ _ _ _ _ _ _ _ _ _ C hR hlow hL k => lv_iushr C.1 C.2.1 hd rfl k) h
theorem T_lushr {x : Int64} {y : Int32} (hd : decode q.2.1 pc = .ok (.lushr, 1)) (h : tT g q d (pc + 1) lo (.long (x.toUInt64 >>> (y.toInt64.toUInt64 &&& Int64.toUInt64 63)).toInt64 :: st) n u E Q) : tT g q d pc lo (.int y :: .long x :: st) n u E Q :=
  T_pure (fun _ _ _ _ _ _ _ _ _ _ _ _ _ _ _ C hR hlow hL k => lv_lushr C.1 C.2.1 hd rfl k) h
theorem T_lshl {x : Int64} {y : Int32} (hd : decode q.2.1 pc = .ok (.lshl, 1)) (h : tT g q d (pc + 1) lo (.long (x <<< (y.toInt64 &&& 63)) :: st) n u E Q) : tT g q d pc lo (.int y :: .long x :: st) n u E Q :=
  T_pure (fun _ _ _ _ _ _ _ _ _ _ _ _ _ _ _ C hR hlow hL k => lv_lshl C.1 C.2.1 hd rfl k) h
theorem T_i2l {x : Int32} (hd : decode q.2.1 pc = .ok (.i2l, 1)) (h : tT g q d (pc + 1) lo (.long x.toInt64 :: st) n u E Q) : tT g q d pc lo (.int x :: st) n u E Q :=
  T_pure (fun _ _ _ _ _ _ _ _ _ _ _ _ _ _ _ C hR hlow hL k => lv_i2l C.1 C.2.1 hd rfl k) h
theorem T_l2i {x : Int64} (hd : decode q.2.1 pc = .ok (.l2i, 1)) (h : tT g q d (pc + 1) lo (.int x.toInt32 :: st) n u E Q) : tT g q d pc lo (.long x :: st) n u E Q :=
  T_pure (fun _ _ _ _ _ _ _ _ _ _ _ _ _ _ _ C hR hlow hL k => lv_l2i C.1 C.2.1 hd rfl k) h
theorem T_i2b {x : Int32} (hd : decode q.2.1 pc = .ok (.i2b, 1)) (h : tT g q d (pc + 1) lo (.int x.toInt8.toInt32 :: st) n u E Q) : tT g q d pc lo (.int x :: st) n u E Q :=
  T_pure (fun _ _ _ _ _ _ _ _ _ _ _ _ _ _ _ C hR hlow hL k => lv_i2b C.1 C.2.1 hd rfl k) h
theorem T_i2c {x : Int32} (hd : decode q.2.1 pc = .ok (.i2c, 1)) (h : tT g q d (pc + 1) lo (.int (x.toUInt32 % 65536).toInt32 :: st) n u E Q) : tT g q d pc lo (.int x :: st) n u E Q :=
  T_pure (fun _ _ _ _ _ _ _ _ _ _ _ _ _ _ _ C hR hlow hL k => lv_i2c C.1 C.2.1 hd rfl k) h
theorem T_goto {off : Int} {tgt : Nat} (hd : decode q.2.1 pc = .ok (.goto off, 3)) (ht : (pc : Int) + off = (tgt : Int)) (h : tT g q d tgt lo st n u E Q) : tT g q d pc lo st n u E Q :=
  T_pure (fun _ _ _ _ _ _ _ _ _ _ _ _ _ _ _ C hR hlow hL k => lv_goto C.1 C.2.1 hd ht k) h
theorem T_if_eq {x : Int32} {off : Int} {tgt : Nat} (hd : decode q.2.1 pc = .ok (.ifCond .eq off, 3)) (ht : (pc : Int) + off = (tgt : Int)) (h1 : x = 0 → tT g q d tgt lo st n u E Q) (h2 : ¬ (x = 0) → tT g q d (pc + 3) lo st n u E Q) : tT g q d pc lo (.int x :: st) n u E Q := by
  by_cases hc : x = 0
  · exact T_pure (fun _ _ _ _ _ _ _ _ _ _ _ _ _ _ _ C hR hlow hL k => lv_if_eq C.1 C.2.1 hd ht (fun _ => k) (fun h => absurd hc h)) (h1 hc)
  · exact T_pure (fun _ _ _ _ _ _ _ _ _ _ _ _ _ _ _ C hR hlow hL k => lv_if_eq C.1 C.2.1 hd ht (fun h => absurd h hc) (fun _ => k)) (h2 hc)
theorem T_icmp_eq {x y : Int32} {off : Int} {tgt : Nat} (hd : decode q.2.1 pc = .ok (.if_icmp .eq off, 3)) (ht : (pc : Int) + off = (tgt : Int)) (h1 : x = y → tT g q d tgt lo st n u E Q) (h2 : ¬ (x = y) → tT g q d (pc + 3) lo st n u E Q) : tT g q d pc lo (.int y :: .int x :: st) n u E Q := by
  by_cases hc : x = y
  · exact T_pure (fun _ _ _ _ _ _ _ _ _ _ _ _ _ _ _ C hR hlow hL k => lv_icmp_eq C.1 C.2.1 hd ht (fun _ => k) (fun h => absurd hc h)) (h1 hc)
  · exact T_pure (fun _ _ _ _ _ _ _ _ _ _ _ _ _ _ _ C hR hlow hL k => lv_icmp_eq C.1 C.2.1 hd ht (fun h => absurd h hc) (fun _ => k)) (h2 hc)
theorem T_if_ne {x : Int32} {off : Int} {tgt : Nat} (hd : decode q.2.1 pc = .ok (.ifCond .ne off, 3)) (ht : (pc : Int) + off = (tgt : Int)) (h1 : ¬ x = 0 → tT g q d tgt lo st n u E Q) (h2 : x = 0 → tT g q d (pc + 3) lo st n u E Q) : tT g q d pc lo (.int x :: st) n u E Q := by
  by_cases hc : x = 0
  · exact T_pure (fun _ _ _ _ _ _ _ _ _ _ _ _ _ _ _ C hR hlow hL k => lv_if_ne C.1 C.2.1 hd ht (fun h => absurd hc h) (fun _ => k)) (h2 hc)
  · exact T_pure (fun _ _ _ _ _ _ _ _ _ _ _ _ _ _ _ C hR hlow hL k => lv_if_ne C.1 C.2.1 hd ht (fun _ => k) (fun h => absurd h hc)) (h1 hc)
theorem T_icmp_ne {x y : Int32} {off : Int} {tgt : Nat} (hd : decode q.2.1 pc = .ok (.if_icmp .ne off, 3)) (ht : (pc : Int) + off = (tgt : Int)) (h1 : ¬ x = y → tT g q d tgt lo st n u E Q) (h2 : x = y → tT g q d (pc + 3) lo st n u E Q) : tT g q d pc lo (.int y :: .int x :: st) n u E Q := by
  by_cases hc : x = y
  · exact T_pure (fun _ _ _ _ _ _ _ _ _ _ _ _ _ _ _ C hR hlow hL k => lv_icmp_ne C.1 C.2.1 hd ht (fun h => absurd hc h) (fun _ => k)) (h2 hc)
  · exact T_pure (fun _ _ _ _ _ _ _ _ _ _ _ _ _ _ _ C hR hlow hL k => lv_icmp_ne C.1 C.2.1 hd ht (fun _ => k) (fun h => absurd h hc)) (h1 hc)
theorem T_if_lt {x : Int32} {off : Int} {tgt : Nat} (hd : decode q.2.1 pc = .ok (.ifCond .lt off, 3)) (ht : (pc : Int) + off = (tgt : Int)) (h1 : x < 0 → tT g q d tgt lo st n u E Q) (h2 : ¬ (x < 0) → tT g q d (pc + 3) lo st n u E Q) : tT g q d pc lo (.int x :: st) n u E Q := by
  by_cases hc : x < 0
  · exact T_pure (fun _ _ _ _ _ _ _ _ _ _ _ _ _ _ _ C hR hlow hL k => lv_if_lt C.1 C.2.1 hd ht (fun _ => k) (fun h => absurd hc h)) (h1 hc)
  · exact T_pure (fun _ _ _ _ _ _ _ _ _ _ _ _ _ _ _ C hR hlow hL k => lv_if_lt C.1 C.2.1 hd ht (fun h => absurd h hc) (fun _ => k)) (h2 hc)
theorem T_icmp_lt {x y : Int32} {off : Int} {tgt : Nat} (hd : decode q.2.1 pc = .ok (.if_icmp .lt off, 3)) (ht : (pc : Int) + off = (tgt : Int)) (h1 : x < y → tT g q d tgt lo st n u E Q) (h2 : ¬ (x < y) → tT g q d (pc + 3) lo st n u E Q) : tT g q d pc lo (.int y :: .int x :: st) n u E Q := by
  by_cases hc : x < y
  · exact T_pure (fun _ _ _ _ _ _ _ _ _ _ _ _ _ _ _ C hR hlow hL k => lv_icmp_lt C.1 C.2.1 hd ht (fun _ => k) (fun h => absurd hc h)) (h1 hc)
  · exact T_pure (fun _ _ _ _ _ _ _ _ _ _ _ _ _ _ _ C hR hlow hL k => lv_icmp_lt C.1 C.2.1 hd ht (fun h => absurd h hc) (fun _ => k)) (h2 hc)
theorem T_if_ge {x : Int32} {off : Int} {tgt : Nat} (hd : decode q.2.1 pc = .ok (.ifCond .ge off, 3)) (ht : (pc : Int) + off = (tgt : Int)) (h1 : 0 ≤ x → tT g q d tgt lo st n u E Q) (h2 : ¬ (0 ≤ x) → tT g q d (pc + 3) lo st n u E Q) : tT g q d pc lo (.int x :: st) n u E Q := by
  by_cases hc : 0 ≤ x
  · exact T_pure (fun _ _ _ _ _ _ _ _ _ _ _ _ _ _ _ C hR hlow hL k => lv_if_ge C.1 C.2.1 hd ht (fun _ => k) (fun h => absurd hc h)) (h1 hc)
  · exact T_pure (fun _ _ _ _ _ _ _ _ _ _ _ _ _ _ _ C hR hlow hL k => lv_if_ge C.1 C.2.1 hd ht (fun h => absurd h hc) (fun _ => k)) (h2 hc)
theorem T_icmp_ge {x y : Int32} {off : Int} {tgt : Nat} (hd : decode q.2.1 pc = .ok (.if_icmp .ge off, 3)) (ht : (pc : Int) + off = (tgt : Int)) (h1 : y ≤ x → tT g q d tgt lo st n u E Q) (h2 : ¬ (y ≤ x) → tT g q d (pc + 3) lo st n u E Q) : tT g q d pc lo (.int y :: .int x :: st) n u E Q := by
  by_cases hc : y ≤ x
  · exact T_pure (fun _ _ _ _ _ _ _ _ _ _ _ _ _ _ _ C hR hlow hL k => lv_icmp_ge C.1 C.2.1 hd ht (fun _ => k) (fun h => absurd hc h)) (h1 hc)
  · exact T_pure (fun _ _ _ _ _ _ _ _ _ _ _ _ _ _ _ C hR hlow hL k => lv_icmp_ge C.1 C.2.1 hd ht (fun h => absurd h hc) (fun _ => k)) (h2 hc)
theorem T_if_gt {x : Int32} {off : Int} {tgt : Nat} (hd : decode q.2.1 pc = .ok (.ifCond .gt off, 3)) (ht : (pc : Int) + off = (tgt : Int)) (h1 : 0 < x → tT g q d tgt lo st n u E Q) (h2 : ¬ (0 < x) → tT g q d (pc + 3) lo st n u E Q) : tT g q d pc lo (.int x :: st) n u E Q := by
  by_cases hc : 0 < x
  · exact T_pure (fun _ _ _ _ _ _ _ _ _ _ _ _ _ _ _ C hR hlow hL k => lv_if_gt C.1 C.2.1 hd ht (fun _ => k) (fun h => absurd hc h)) (h1 hc)
  · exact T_pure (fun _ _ _ _ _ _ _ _ _ _ _ _ _ _ _ C hR hlow hL k => lv_if_gt C.1 C.2.1 hd ht (fun h => absurd h hc) (fun _ => k)) (h2 hc)
theorem T_icmp_gt {x y : Int32} {off : Int} {tgt : Nat} (hd : decode q.2.1 pc = .ok (.if_icmp .gt off, 3)) (ht : (pc : Int) + off = (tgt : Int)) (h1 : y < x → tT g q d tgt lo st n u E Q) (h2 : ¬ (y < x) → tT g q d (pc + 3) lo st n u E Q) : tT g q d pc lo (.int y :: .int x :: st) n u E Q := by
  by_cases hc : y < x
  · exact T_pure (fun _ _ _ _ _ _ _ _ _ _ _ _ _ _ _ C hR hlow hL k => lv_icmp_gt C.1 C.2.1 hd ht (fun _ => k) (fun h => absurd hc h)) (h1 hc)
  · exact T_pure (fun _ _ _ _ _ _ _ _ _ _ _ _ _ _ _ C hR hlow hL k => lv_icmp_gt C.1 C.2.1 hd ht (fun h => absurd h hc) (fun _ => k)) (h2 hc)
theorem T_if_le {x : Int32} {off : Int} {tgt : Nat} (hd : decode q.2.1 pc = .ok (.ifCond .le off, 3)) (ht : (pc : Int) + off = (tgt : Int)) (h1 : x ≤ 0 → tT g q d tgt lo st n u E Q) (h2 : ¬ (x ≤ 0) → tT g q d (pc + 3) lo st n u E Q) : tT g q d pc lo (.int x :: st) n u E Q := by
  by_cases hc : x ≤ 0
  · exact T_pure (fun _ _ _ _ _ _ _ _ _ _ _ _ _ _ _ C hR hlow hL k => lv_if_le C.1 C.2.1 hd ht (fun _ => k) (fun h => absurd hc h)) (h1 hc)
  · exact T_pure (fun _ _ _ _ _ _ _ _ _ _ _ _ _ _ _ C hR hlow hL k => lv_if_le C.1 C.2.1 hd ht (fun h => absurd h hc) (fun _ => k)) (h2 hc)
theorem T_icmp_le {x y : Int32} {off : Int} {tgt : Nat} (hd : decode q.2.1 pc = .ok (.if_icmp .le off, 3)) (ht : (pc : Int) + off = (tgt : Int)) (h1 : x ≤ y → tT g q d tgt lo st n u E Q) (h2 : ¬ (x ≤ y) → tT g q d (pc + 3) lo st n u E Q) : tT g q d pc lo (.int y :: .int x :: st) n u E Q := by
  by_cases hc : x ≤ y
  · exact T_pure (fun _ _ _ _ _ _ _ _ _ _ _ _ _ _ _ C hR hlow hL k => lv_icmp_le C.1 C.2.1 hd ht (fun _ => k) (fun h => absurd hc h)) (h1 hc)
  · exact T_pure (fun _ _ _ _ _ _ _ _ _ _ _ _ _ _ _ C hR hlow hL k => lv_icmp_le C.1 C.2.1 hd ht (fun h => absurd h hc) (fun _ => k)) (h2 hc)
theorem T_tableIn {dflt lw hi : Int} {offs : Array Int} {len : Nat} {x : Int32} {off : Int} {tgt : Nat} (hd : decode q.2.1 pc = .ok (.tableswitch dflt lw hi offs, len)) (h1 : ¬ x.toInt < lw) (h2 : ¬ hi < x.toInt) (ho : offs[(x.toInt - lw).toNat]? = some off) (ht : (pc : Int) + off = (tgt : Int)) (h : tT g q d tgt lo st n u E Q) : tT g q d pc lo (.int x :: st) n u E Q :=
  T_pure (fun _ _ _ _ _ _ _ _ _ _ _ _ _ _ _ C _ _ _ k => lv_tableIn C.1 C.2.1 hd h1 h2 ho ht k) h
theorem T_tableOut {dflt lw hi : Int} {offs : Array Int} {len : Nat} {x : Int32} {tgt : Nat} (hd : decode q.2.1 pc = .ok (.tableswitch dflt lw hi offs, len)) (h1 : x.toInt < lw ∨ hi < x.toInt) (ht : (pc : Int) + dflt = (tgt : Int)) (h : tT g q d tgt lo st n u E Q) : tT g q d pc lo (.int x :: st) n u E Q :=
  T_pure (fun _ _ _ _ _ _ _ _ _ _ _ _ _ _ _ C _ _ _ k => lv_tableOut C.1 C.2.1 hd h1 ht k) h
theorem T_lookup {dflt : Int} {ps : Array (Int × Int)} {len : Nat} {x : Int32} {off : Int} {tgt : Nat} (hd : decode q.2.1 pc = .ok (.lookupswitch dflt ps, len)) (hp : (ps.toList.zip (ps.toList.drop 1)).all (fun (a, next) => a.1 < next.1) = true) (ho : Op.lookupswitch.offset ps.toList dflt x.toInt = off) (ht : (pc : Int) + off = (tgt : Int)) (h : tT g q d tgt lo st n u E Q) : tT g q d pc lo (.int x :: st) n u E Q :=
  T_pure (fun _ _ _ _ _ _ _ _ _ _ _ _ _ _ _ C _ _ _ k => lv_lookup C.1 C.2.1 hd hp ho ht k) h
theorem T_iinc {i : Nat} {k : Int} {x : Int32} (hd : decode q.2.1 pc = .ok (.iinc i k, 3)) (hl : lo[i]? = some (some (.int x))) (hn : i < q.2.2.1) (hnl : t_nl lo i = true) (h : tT g q d (pc + 3) (lo.set i (some (.int (x + Int32.ofInt k)))) st n u E Q) : tT g q d pc lo st n u E Q := by
  obtain ⟨j, hj⟩ := List.mem_iff_getElem?.mp (t_as_mem.mpr hl)
  exact T_loc (fun _ _ _ _ _ _ _ _ _ _ _ _ _ _ _ C hL k => lv_iinc C.1 C.2.1 hd hL.has hj rfl hn rfl (fun ls' h' => k ls' (t_L.set hnl h'))) h
/-- a cell of the memory lies in the heap -/
theorem t_R.at {a : Nat} {H : Heap} {x : va_E} (hR : t_R g n E H) (ha : t_z g ≤ a ∧ a < t_z g + n) (hE : E a = x) : va_at (t_D g) vwCl (a, x) H := hE ▸ hR.2 a ha.1 ha.2
theorem t_one {a : Nat} {H : Heap} {x : va_E} (h : va_at (t_D g) vwCl (a, x) H) : va_P (t_D g) vwCl [(a, x)] H := by
  intro k r hk
  have hz : k < 1 := (List.getElem?_eq_some_iff.mp hk).1
  rw [show k = 0 by omega] at hk
  cases hk
  exact h
/-- which field the pool's entry idx of own names: field k of class ci -/
def t_FL (own : String) (idx ci k : Nat) : Prop := ∃ (C : String) (T : u_T) (N : Nat), vwCl[ci]? = some (C, T, N) ∧ k < N ∧ Cond.fieldLink own idx (T k).1 (T k).2.1 (T k).2.2.1 ∈ tw ∧ ∀ w ∈ u_ws C T N, w ∈ tw
/-- the same with the field's type, for a store -/
def t_FP (own : String) (idx ci k : Nat) (ty : FieldType) (fin : Bool) : Prop := ∃ (C : String) (T : u_T) (N : Nat) (ty0 : Nat → FieldType), vwCl[ci]? = some (C, T, N) ∧ k < N ∧ Cond.fieldLink own idx (T k).1 (T k).2.1 (T k).2.2.1 ∈ tw ∧ (∀ w ∈ u_ws C T N, w ∈ tw) ∧ (∀ k, k < N → parseFieldDescriptor (T k).2.2.1 = some (ty0 k)) ∧ (∀ a, a < N → ∀ b, b < N → a ≠ b → (T a).2.1 ≠ (T b).2.1) ∧ parseFieldDescriptor (T k).2.2.1 = some ty ∧ (T k).2.2.2 = fin ∧ (fin = true → (T k).1 = own)
theorem T_getf {idx ci k a : Nat} {fs : List Value} {v : Value} (hd : decode q.2.1 pc = .ok (.getfield idx, 3)) (hf : t_FL q.1.cls idx ci k) (ha : t_z g ≤ a ∧ a < t_z g + n) (hE : E a = .inr (ci, fs)) (hv : fs[k]? = some v) (h : tT g q d (pc + 3) lo (v :: st) n u E Q) : tT g q d pc lo (.ref a :: st) n u E Q := by
  obtain ⟨C, T, N, hc, hk, hl, hin⟩ := hf
  exact T_pure (fun _ _ _ _ _ _ _ _ _ _ _ _ _ _ _ c hR hlow _ kk => va_get c.1 c.2.1 c.2.2.2.2.2.2.1 hin c.2.2.2.2.2.1 c.2.2.2.2.2.2.2.2.2.2.1 (t_one (hR.at ha hE)) 0 rfl hc k hk (c.2.2.2.2.2.2.1 _ hl) (fun _ h9 => h9) hv hd kk) h
theorem T_putf {idx ci k a : Nat} {fs : List Value} {v : Value} {ty : FieldType} (hd : decode q.2.1 pc = .ok (.putfield idx, 3)) (hf : t_FP q.1.cls idx ci k ty false) (ha : t_z g ≤ a ∧ a < t_z g + n) (hE : E a = .inr (ci, fs)) (hn : narrow ty v = v) (hfit : fits ty v = true) (hlen : k < fs.length) (h : tT g q d (pc + 3) lo st n u (va_up E a (.inr (ci, fs.set k v))) Q) : tT g q d pc lo (v :: .ref a :: st) n u E Q := by
  obtain ⟨C, T, N, ty0, hc, hk, hl, hin, hty, hnm, hd0, hfin, -⟩ := hf
  refine T_mem (fun p e R s m args below meth c H locs ls cells slots Qs cx hR hlow hloc hL kk => ?_) h
  have hts := cx.2.2.2.2.2.2.1
  have hK := cx.2.2.2.2.2.2.2.2.2.2.1
  have hap := va_apart (own := q.1.cls) hts hin ty0 hty hnm hK hc
  obtain ⟨r, h1, cell, q1, q2, q3, q4⟩ := hR.at ha hE
  have hr : r = (C, T, N) := Option.some.inj (h1.symm.trans hc)
  subst hr
  obtain ⟨hS, hfc, kC, hkC, hkind⟩ := hK.1 ci _ hc
  obtain ⟨cf, kf, fi, f, hi, hsl⟩ := hS k hk
  have hlay := hts _ (hin _ (u_in_lay hk))
  unfold u_lay at hlay
  rw [if_neg (by rw [hfin]; decide)] at hlay
  have hst := (u_facts hfc hkC (u_lays hts hin hk) hi).1
  have h6 := u_store hfc hkC hkind hlay hi hd0 hn hfit
  refine W.putK cx.1 cx.2.1 (f := f) ⟨cx.2.2.2.2.2.1, hts _ hl, ⟨_, _, _, hi⟩, hst⟩ (by rw [q2]; exact h6) q1 q3 (by rw [hsl]; exact k2_hasslot (q4 k hk)) rfl rfl hd fun H' e1 e2 e3 => ?_
  rw [hsl] at e1 ⊢
  refine kk H' _ (hR.up e2 e3 ⟨_, hc, t_OB.to (V := updV (vp_V fs) k v) ⟨_, e1, q2, q3, t_set q4 hap hk v⟩ (fun j _ => vp_updV_set hlen v j)⟩) (hlow.put ha.1 e3) (fun x hx => ?_)
  rcases List.mem_append.mp hx with hx | hx
  · exact hloc x hx
  · rw [List.mem_singleton.mp hx]; exact ha.1
theorem T_putF {idx ci k a : Nat} {fs : List Value} {v : Value} {ty : FieldType} (hd : decode q.2.1 pc = .ok (.putfield idx, 3)) (hini : q.1.name = "<init>") (hf : t_FP q.1.cls idx ci k ty true) (ha : t_z g ≤ a ∧ a < t_z g + n) (hE : E a = .inr (ci, fs)) (hn : narrow ty v = v) (hfit : fits ty v = true) (hlen : k < fs.length) (h : tT g q d (pc + 3) lo st n u (va_up E a (.inr (ci, fs.set k v))) Q) : tT g q d pc lo (v :: .ref a :: st) n u E Q := by
  obtain ⟨C, T, N, ty0, hc, hk, hl, hin, hty, hnm, hd0, hfin, hdecl⟩ := hf
  refine T_mem (fun p e R s m args below meth c H locs ls cells slots Qs cx hR hlow hloc hL kk => ?_) h
  have hts := cx.2.2.2.2.2.2.1
  have hK := cx.2.2.2.2.2.2.2.2.2.2.1
  have hap := va_apart (own := q.1.cls) hts hin ty0 hty hnm hK hc
  obtain ⟨r, h1, cell, q1, q2, q3, q4⟩ := hR.at ha hE
  have hr : r = (C, T, N) := Option.some.inj (h1.symm.trans hc)
  subst hr
  obtain ⟨hS, hfc, kC, hkC, hkind⟩ := hK.1 ci _ hc
  obtain ⟨cf, kf, fi, f, hi, hsl⟩ := hS k hk
  have hlay := hts _ (hin _ (u_in_lay hk))
  unfold u_lay at hlay
  rw [if_pos hfin] at hlay
  have hst := (u_facts hfc hkC (u_lays hts hin hk) hi).1
  have hcf : m.cls = cf := by
    obtain ⟨_, _, c', _, _, _, -, -, hf', -, -, -, hown2, -⟩ := Cond.laysFinal_spec hlay
    have e1 : c' = cf := by have := hi.symm.trans hf'; simp at this; exact this.1.symm
    rw [hdecl rfl] at hown2
    rw [← e1]; exact Option.some.inj (cx.2.2.2.2.2.1.symm.trans hown2)
  have h6 := u_fits hfc hkC hkind (Or.inr hlay) hi hd0 hn hfit
  refine W.putFinK cx.1 cx.2.1 cx.2.2.2.2.2.1 (hts _ hl) hi hst hcf (cx.2.2.2.2.2.2.2.1 hini) (by rw [q2]; exact h6) q1 q3 (by rw [hsl]; exact k2_hasslot (q4 k hk)) rfl rfl hd fun H' e1 e2 e3 => ?_
  rw [hsl] at e1 ⊢
  refine kk H' _ (hR.up e2 e3 ⟨_, hc, t_OB.to (V := updV (vp_V fs) k v) ⟨_, e1, q2, q3, t_set q4 hap hk v⟩ (fun j _ => vp_updV_set hlen v j)⟩) (hlow.put ha.1 e3) (fun x hx => ?_)
  rcases List.mem_append.mp hx with hx | hx
  · exact hloc x hx
  · rw [List.mem_singleton.mp hx]; exact ha.1
theorem T_iald {a N : Nat} {f : Nat → Int32} {i : Int32} (hd : decode q.2.1 pc = .ok (.iaload, 1)) (ha : t_z g ≤ a ∧ a < t_z g + n) (hE : E a = .inl (t_cI g, N, .inl f)) (hin : vp_in i N) (h : tT g q d (pc + 1) lo (.int (f i.toNatClampNeg) :: st) n u E Q) : tT g q d pc lo (.int i :: .ref a :: st) n u E Q :=
  T_pure (fun _ _ _ _ _ _ _ _ _ _ _ _ _ _ _ c hR _ _ kk => va_iald c.1 c.2.1 c.2.2.2.2.2.2.2.2.2.2.1 (t_one (hR.at ha hE)) 0 0 rfl rfl hin hd kk) h
theorem T_bald {a N : Nat} {f : Nat → Int32} {i : Int32} (hd : decode q.2.1 pc = .ok (.baload, 1)) (ha : t_z g ≤ a ∧ a < t_z g + n) (hE : E a = .inl (t_cB g, N, .inl f)) (hin : vp_in i N) (h : tT g q d (pc + 1) lo (.int (f i.toNatClampNeg) :: st) n u E Q) : tT g q d pc lo (.int i :: .ref a :: st) n u E Q :=
  T_pure (fun _ _ _ _ _ _ _ _ _ _ _ _ _ _ _ c hR _ _ kk => va_bald c.1 c.2.1 c.2.2.2.2.2.2.2.2.2.2.1 (t_one (hR.at ha hE)) 0 1 rfl rfl hin hd kk) h
theorem T_aald {a N r : Nat} {t0 : Nat} {cA : ClassId} {C : String} {f : Nat → Option Nat} {i : Int32} (ht : (t_ty g)[t0]? = some (cA, .object C)) (hd : decode q.2.1 pc = .ok (.aaload, 1)) (ha : t_z g ≤ a ∧ a < t_z g + n) (hE : E a = .inl (cA, N, .inr (.inr (.inr (.inr f))))) (hin : vp_in i N) (hf : f i.toNatClampNeg = some r) (h : tT g q d (pc + 1) lo (.ref r :: st) n u E Q) : tT g q d pc lo (.int i :: .ref a :: st) n u E Q :=
  T_pure (fun _ _ _ _ _ _ _ _ _ _ _ _ _ _ _ c hR _ _ kk => va_aldq c.1 c.2.1 c.2.2.2.2.2.2.2.2.2.2.1 (t_one (hR.at ha hE)) 0 t0 rfl ht hin hd (by rw [hf]; exact kk)) h
theorem T_alen {a : Nat} {cA : ClassId} {x : vp_A} {t0 : Nat} {ty : FieldType} (ht : (t_ty g)[t0]? = some (cA, ty)) (hd : decode q.2.1 pc = .ok (.arraylength, 1)) (ha : t_z g ≤ a ∧ a < t_z g + n) (hE : E a = .inl (cA, x)) (h : tT g q d (pc + 1) lo (.int (nI x.1) :: st) n u E Q) : tT g q d pc lo (.ref a :: st) n u E Q :=
  T_pure (fun _ _ _ _ _ _ _ _ _ _ _ _ _ _ _ c hR _ _ kk => va_alen c.1 c.2.1 c.2.2.2.2.2.2.2.2.2.2.1 (t_one (hR.at ha hE)) 0 t0 rfl ht rfl hd kk) h
theorem t_in_slots {cA : ClassId} {N : Nat} {V : Nat → Value} {i : Int32} (hin : vp_in i N) : ¬ (i < 0 ∨ (arrV cA N V).slots.size ≤ i.toNatClampNeg) := by rw [arrV_size]; exact hin
theorem T_iast {a N : Nat} {f : Nat → Int32} {i x : Int32} (hd : decode q.2.1 pc = .ok (.iastore, 1)) (ha : t_z g ≤ a ∧ a < t_z g + n) (hE : E a = .inl (t_cI g, N, .inl f)) (hin : vp_in i N) (h : tT g q d (pc + 1) lo st n u (va_up E a (.inl (t_cI g, N, .inl (upd f i.toNatClampNeg x)))) Q) : tT g q d pc lo (.int x :: .int i :: .ref a :: st) n u E Q := by
  refine T_mem (fun p e R s m args below meth c H locs ls cells slots Qs cx hR hlow hloc hL kk => ?_) h
  have hat : H[a]? = some (arrV (t_cI g) N (fun j => .int (f j))) := hR.at ha hE
  refine W.iast cx.1 cx.2.1 hat ((cx.2.2.2.2.2.2.2.2.2.2.1.2 0 _ rfl).1 N (fun j => .int (f j))) (fun q => by cases q) (t_in_slots hin) rfl rfl hd fun H1 e1 z1 o1 => ?_
  refine kk H1 _ (hR.up z1 o1 ?_) (hlow.put ha.1 o1) (fun y hy => ?_)
  · show H1[a]? = some (arrV (t_cI g) N (fun j => .int (upd f i.toNatClampNeg x j)))
    rw [e1, arrV_store]
    congr 2
    funext k
    by_cases hk : k = i.toNatClampNeg
    · subst hk; simp [updV, upd]
    · simp [updV, upd, hk]
  · rcases List.mem_append.mp hy with hy | hy
    · exact hloc y hy
    · rw [List.mem_singleton.mp hy]; exact ha.1
theorem T_bast {a N : Nat} {f : Nat → Int32} {i x : Int32} (hd : decode q.2.1 pc = .ok (.bastore, 1)) (ha : t_z g ≤ a ∧ a < t_z g + n) (hE : E a = .inl (t_cB g, N, .inl f)) (hin : vp_in i N) (h : tT g q d (pc + 1) lo st n u (va_up E a (.inl (t_cB g, N, .inl (upd f i.toNatClampNeg x.toInt8.toInt32)))) Q) : tT g q d pc lo (.int x :: .int i :: .ref a :: st) n u E Q := by
  refine T_mem (fun p e R s m args below meth c H locs ls cells slots Qs cx hR hlow hloc hL kk => ?_) h
  have hat : H[a]? = some (arrV (t_cB g) N (fun j => .int (f j))) := hR.at ha hE
  refine W.bast cx.1 cx.2.1 hat ((cx.2.2.2.2.2.2.2.2.2.2.1.2 1 _ rfl).1 N (fun j => .int (f j))) (fun q => by cases q) (t_in_slots hin) rfl rfl hd fun H1 e1 z1 o1 => ?_
  refine kk H1 _ (hR.up z1 o1 ?_) (hlow.put ha.1 o1) (fun y hy => ?_)
  · show H1[a]? = some (arrV (t_cB g) N (fun j => .int (upd f i.toNatClampNeg x.toInt8.toInt32 j)))
    rw [e1, arrV_store]
    congr 2
    funext k
    by_cases hk : k = i.toNatClampNeg
    · subst hk; simp [updV, upd]; rfl
    · simp [updV, upd, hk]
  · rcases List.mem_append.mp hy with hy | hy
    · exact hloc y hy
    · rw [List.mem_singleton.mp hy]; exact ha.1
theorem T_aast {a N v ci : Nat} {t0 : Nat} {cA : ClassId} {rc : vw_C} {vs : List Value} {f : Nat → Option Nat} {i : Int32} (ht : (t_ty g)[t0]? = some (cA, .object rc.1)) (hd : decode q.2.1 pc = .ok (.aastore, 1)) (ha : t_z g ≤ a ∧ a < t_z g + n) (hE : E a = .inl (cA, N, .inr (.inr (.inr (.inr f))))) (hin : vp_in i N) (hv : t_z g ≤ v ∧ v < t_z g + n) (hEv : E v = .inr (ci, vs)) (hc : vwCl[ci]? = some rc) (h : tT g q d (pc + 1) lo st n u (va_up E a (.inl (cA, N, .inr (.inr (.inr (.inr (va_up f i.toNatClampNeg (some v)))))))) Q) : tT g q d pc lo (.ref v :: .int i :: .ref a :: st) n u E Q := by
  refine T_mem (fun p e R s m args below meth c H locs ls cells slots Qs cx hR hlow hloc hL kk => ?_) h
  have hK := cx.2.2.2.2.2.2.2.2.2.2.1
  have hlt : i.toNatClampNeg < N := Nat.not_le.mp fun q => hin (Or.inr q)
  have h0 : ¬ i < 0 := fun q => hin (Or.inl q)
  have hat : H[a]? = some (arrV cA N (fun j => va_rf (f j))) := hR.at ha hE
  obtain ⟨r', hr', cellV, g1, g2, g3, -⟩ := hR.at hv hEv
  have hcls := (hK.1 ci rc hc).2
  obtain ⟨kA, comp, k1, k2, k3, -⟩ := (hK.2 t0 _ ht).2
  have hcomp : comp = (t_D g).1 ci := Option.some.inj (k3.symm.trans hcls.1)
  subst hcomp
  obtain ⟨kC, hkC, -⟩ := hcls.2
  refine W.aast cx.1 cx.2.1 hat (fun q h => by cases h) (fun h => by cases h) k1 k2 rfl hkC ⟨h0, by show _ < (arrV _ _ _).slots.size; rw [arrV_size]; exact hlt⟩ g1 (fun q h => by rw [g3] at h; cases h) (by rw [g2]; exact hkC) (by rw [g2]; exact va_assign hcls) rfl rfl hd fun H1 e1 z1 o1 => ?_
  refine kk H1 _ (hR.up z1 o1 ?_) (hlow.put ha.1 o1) (fun y hy => ?_)
  · show H1[a]? = some (arrV cA N (fun j => va_rf (va_up f i.toNatClampNeg (some v) j)))
    rw [e1, arrV_store]
    congr 2
    funext k
    by_cases hk : k = i.toNatClampNeg
    · subst hk; simp [updV, va_up, va_rf]
    · simp [updV, va_up, hk]
  · rcases List.mem_append.mp hy with hy | hy
    · exact hloc y hy
    · rw [List.mem_singleton.mp hy]; exact ha.1
theorem T_new {idx ci N : Nat} {C : String} {T : u_T} {fs : List Value} (ty : Nat → FieldType) (hd : decode q.2.1 pc = .ok (.new idx, 3)) (hc : vwCl[ci]? = some (C, T, N)) (hin : ∀ w ∈ u_ws C T N, w ∈ tw) (hty : ∀ k, k < N → parseFieldDescriptor (T k).2.2.1 = some (ty k)) (hcl : Cond.classLink q.1.cls idx C ∈ tw) (hins : Cond.instantiable C N ∈ tw) (hini : Cond.initialized C ∈ tw) (hfs : ∀ j, j < N → defaultValue (ty j) = vp_V fs j) (h : tT g q d (pc + 3) lo (.ref (t_z g + n) :: st) (n + 1) (u + N) (va_up E (t_z g + n) (.inr (ci, fs))) Q) : tT g q d pc lo st n u E Q := by
  refine T_gen (Nat.le_add_right n 1) (Nat.le_add_right u N) (fun p e R s m args below meth c H locs ls cells slots Qs cx hR hlow hloc hL hcs hsl kk => ?_) h
  have hts := cx.2.2.2.2.2.2.1
  have hKn := cx.2.2.2.2.2.2.2.2.2.2.1.1 ci _ hc
  rw [Nat.add_sub_cancel_left] at hcs hsl kk
  refine W.newcK cx.1 cx.2.1 cx.2.2.2.2.2.1 (hts _ hcl) (hts _ hins) (hts _ hini) rfl hd hcs hsl hKn.2.1 hR.1 fun H1 kC hkC e1 z1 o1 => ?_
  rw [Nat.add_sub_cancel_left] at kk
  exact kk H1 locs ls (hR.push z1 o1 ⟨_, hc, (u_born ty hts hin hKn hkC e1 hty).to hfs⟩) (hlow.push (Nat.le_add_right _ n) o1) hloc hL
theorem t_clsI {s : State} {cA : ClassId} (hK : va_K (t_D g) vwCl (t_ty g) s) (h : s.vm.findClass ("[" ++ FieldType.int.toString) = some cA) : cA = t_cI g := Option.some.inj (h.symm.trans ((hK.2 0 _ rfl).2 : s.vm.findClass ("[" ++ FieldType.int.toString) = some (t_cI g)))
theorem t_clsB {s : State} {cA : ClassId} (hK : va_K (t_D g) vwCl (t_ty g) s) (h : s.vm.findClass ("[" ++ FieldType.byte.toString) = some cA) : cA = t_cB g := Option.some.inj (h.symm.trans ((hK.2 1 _ rfl).2 : s.vm.findClass ("[" ++ FieldType.byte.toString) = some (t_cB g)))
theorem T_newi {x : Int32} {N : Nat} (hd : decode q.2.1 pc = .ok (.newarray .int, 2)) (hw : Cond.arrayClass .int ∈ tw) (hx : ¬ x < 0) (hN : x.toNatClampNeg = N) (hb : N * 4 ≤ 536870912) (h : tT g q d (pc + 2) lo (.ref (t_z g + n) :: st) (n + 1) (u + N) (va_up E (t_z g + n) (.inl (t_cI g, N, .inl (fun _ => 0)))) Q) : tT g q d pc lo (.int x :: st) n u E Q := by
  refine T_gen (Nat.le_add_right n 1) (Nat.le_add_right u N) (fun p e R s m args below meth c H locs ls cells slots Qs cx hR hlow hloc hL hcs hsl kk => ?_) h
  rw [Nat.add_sub_cancel_left] at hcs hsl kk
  rw [Nat.add_sub_cancel_left] at kk
  refine va_newaK (atype := .int) cx.1 cx.2.1 (cx.2.2.2.2.2.2.1 _ hw) rfl hd rfl hx hN hb hcs hsl hR.1 fun H1 cA e1 z1 o1 _ hfc => ?_
  have hcA : cA = t_cI g := t_clsI cx.2.2.2.2.2.2.2.2.2.2.1 hfc
  subst hcA
  exact kk H1 locs ls (hR.push z1 o1 e1) (hlow.push (Nat.le_add_right _ n) o1) hloc hL
theorem T_newb {x : Int32} {N : Nat} (hd : decode q.2.1 pc = .ok (.newarray .byte, 2)) (hw : Cond.arrayClass .byte ∈ tw) (hx : ¬ x < 0) (hN : x.toNatClampNeg = N) (hb : N * 1 ≤ 536870912) (h : tT g q d (pc + 2) lo (.ref (t_z g + n) :: st) (n + 1) (u + N) (va_up E (t_z g + n) (.inl (t_cB g, N, .inl (fun _ => 0)))) Q) : tT g q d pc lo (.int x :: st) n u E Q := by
  refine T_gen (Nat.le_add_right n 1) (Nat.le_add_right u N) (fun p e R s m args below meth c H locs ls cells slots Qs cx hR hlow hloc hL hcs hsl kk => ?_) h
  rw [Nat.add_sub_cancel_left] at hcs hsl kk
  rw [Nat.add_sub_cancel_left] at kk
  refine va_newaK (atype := .byte) cx.1 cx.2.1 (cx.2.2.2.2.2.2.1 _ hw) rfl hd rfl hx hN hb hcs hsl hR.1 fun H1 cA e1 z1 o1 _ hfc => ?_
  have hcA : cA = t_cB g := t_clsB cx.2.2.2.2.2.2.2.2.2.2.1 hfc
  subst hcA
  exact kk H1 locs ls (hR.push z1 o1 e1) (hlow.push (Nat.le_add_right _ n) o1) hloc hL
end TR
