/-! The T layer: a method's run over a memory E (address to cell) that lies in the heap from z on, without a gap. -/
def tw : List Cond := lw_tbl.filter goodWord
theorem tw_of {w : Cond} (h : w ∈ lw_tbl) (hg : goodWord w = true) : w ∈ tw := List.mem_filter.mpr ⟨h, hg⟩
theorem tw_good : ∀ w ∈ tw, goodWord w = true := fun _ h => (List.mem_filter.mp h).2
theorem tw_in {ws : List Cond} (h : ∀ w ∈ ws, w ∈ tw) : GoodIn tw ws := fun w hw => ⟨h w hw, good_of_word (tw_good w (h w hw))⟩
abbrev t_MI : Type := MethodName × ByteArray × Nat × Option FieldType
abbrev t_mw (q : t_MI) : List Cond := .code q.1 q.2.1 q.2.2.1 q.2.2.2 :: tw
abbrev t_G : Type := Launch × Nat × va_G × (ClassId × ClassId × ClassId × ClassId) × (State → Heap → Prop)
abbrev t_M : Type := Nat → va_E
abbrev t_z (g : t_G) : Nat := g.2.1
abbrev t_D (g : t_G) : va_G := g.2.2.1
abbrev t_cI (g : t_G) : ClassId := g.2.2.2.1.1
abbrev t_cB (g : t_G) : ClassId := g.2.2.2.1.2.1
abbrev t_cN (g : t_G) : ClassId := g.2.2.2.1.2.2.1
abbrev t_cW (g : t_G) : ClassId := g.2.2.2.1.2.2.2
abbrev t_ty (g : t_G) : List (ClassId × FieldType) := [(t_cI g, .int), (t_cB g, .byte), (t_cN g, .object RX3), (t_cW g, .object RX7)]
def t_low (z : Nat) (H H' : Heap) : Prop := ∀ q : Nat, q < z → H'[q]? = H[q]?
def t_R (g : t_G) (n : Nat) (E : t_M) (H : Heap) : Prop := H.size = t_z g + n ∧ ∀ a : Nat, t_z g ≤ a → a < t_z g + n → va_at (t_D g) vwCl (a, E a) H
def t_XC (g : t_G) : Prop := (∀ (u U : State) (H : Heap), u.vm = U.vm → g.2.2.2.2 u H → g.2.2.2.2 U H) ∧ (∀ (u U : State) (H : Heap), u.WarmedH U.vm → g.2.2.2.2 u H → g.2.2.2.2 U H) ∧ ∀ (U : State) (H H' : Heap), t_low (t_z g) H H' → g.2.2.2.2 U H → g.2.2.2.2 U H'
def t_Nst (U : State) : Prop := ∀ (a : String) (i : Nat) (y : MethodName) (h : String), Cond.methodLinkNest a i y h ∈ tables_1 → va_Nw (.methodLinkNest a i y h) U
def t_K (g : t_G) (U : State) (H : Heap) : Prop := va_K (t_D g) vwCl (t_ty g) U ∧ t_Nst U ∧ va_AO RX3 U ∧ va_AO RX7 U ∧ t_XC g ∧ g.2.2.2.2 U H
theorem t_K.warm {g : t_G} {u U : State} {H : Heap} (hW : u.WarmedH U.vm) (h : t_K g u H) : t_K g U H :=
  ⟨va_K.moved hW.alike h.1, fun a i y k hm => va_Nw.warmM hW (h.2.1 a i y k hm), va_AO.moved hW.alike h.2.2.1, va_AO.moved hW.alike h.2.2.2.1, h.2.2.2.2.1, h.2.2.2.2.1.2.1 u U H hW h.2.2.2.2.2⟩
theorem t_K.same {g : t_G} {u U : State} {H : Heap} (hv : u.vm = U.vm) (h : t_K g u H) : t_K g U H :=
  ⟨va_K.moved (by rw [← hv]; exact Vm.Alike.refl u.vm) h.1, fun a i y k hm => va_Nw.same rfl hv (h.2.1 a i y k hm), va_AO.moved (by rw [← hv]; exact Vm.Alike.refl u.vm) h.2.2.1, va_AO.moved (by rw [← hv]; exact Vm.Alike.refl u.vm) h.2.2.2.1, h.2.2.2.2.1, h.2.2.2.2.1.1 u U H hv h.2.2.2.2.2⟩
theorem t_K.kept {g : t_G} {U : State} {H H' : Heap} (hl : t_low (t_z g) H H') (h : t_K g U H) : t_K g U H' :=
  ⟨h.1, h.2.1, h.2.2.1, h.2.2.2.1, h.2.2.2.2.1, h.2.2.2.2.1.2.2 U H H' hl h.2.2.2.2.2⟩
theorem t_low.tr {z : Nat} {H H' H2 : Heap} (h : t_low z H H') (h2 : t_low z H' H2) : t_low z H H2 := fun q hq => (h2 q hq).trans (h q hq)
theorem t_low.put {z a : Nat} {H0 H H' : Heap} (h : t_low z H0 H) (ha : z ≤ a) (o : ∀ q : Nat, q ≠ a → H'[q]? = H[q]?) : t_low z H0 H' := fun q hq => (o q (by omega)).trans (h q hq)
theorem t_low.push {z k : Nat} {H0 H H' : Heap} (h : t_low z H0 H) (ha : z ≤ k) (o : ∀ q : Nat, q < k → H'[q]? = H[q]?) : t_low z H0 H' := fun q hq => (o q (by omega)).trans (h q hq)
theorem t_R.up {g : t_G} {n a : Nat} {E : t_M} {H H' : Heap} {x : va_E} (h : t_R g n E H) (z : H'.size = H.size) (o : ∀ q : Nat, q ≠ a → H'[q]? = H[q]?) (hx : va_at (t_D g) vwCl (a, x) H') : t_R g n (va_up E a x) H' := by
  refine ⟨z.trans h.1, fun b h1 h2 => ?_⟩
  by_cases hb : b = a
  · subst hb
    rw [va_up_self]
    exact hx
  · rw [va_up_ne _ _ hb]
    exact (h.2 b h1 h2).kept (o b hb)
theorem t_R.push {g : t_G} {n : Nat} {E : t_M} {H H' : Heap} {x : va_E} (h : t_R g n E H) (z : H'.size = t_z g + n + 1) (o : ∀ q : Nat, q < t_z g + n → H'[q]? = H[q]?) (hx : va_at (t_D g) vwCl (t_z g + n, x) H') : t_R g (n + 1) (va_up E (t_z g + n) x) H' := by
  refine ⟨z, fun b h1 h2 => ?_⟩
  by_cases hb : b = t_z g + n
  · subst hb
    rw [va_up_self]
    exact hx
  · rw [va_up_ne _ _ hb]
    exact (h.2 b h1 (by omega)).kept (o b (by omega))
def t_C (g : t_G) (q : t_MI) (d : Nat) (p : Program) (R : Room) (s : State) (m : MethodId) (args : Array Value) (meth : Method) (c : Code) : Prop :=
  p.tables.exec = Jvm.exec ∧ c.code = q.2.1 ∧ c.maxLocals = q.2.2.1 ∧ meth.sig.returnType = q.2.2.2 ∧ meth.locks = false ∧ s.vm.findClass q.1.cls = some m.cls ∧ (∀ w ∈ tw, w.before args s = true) ∧ (q.1.name = "<init>" → meth.name = "<init>") ∧ d ≤ R.frames ∧ 39 * d ≤ R.locals ∧ t_K g s s.heap
def t_L (ls : Array Slot) (nL : Nat) (lo : List (Option Value)) : Prop := ls.size = nL ∧ lv_wf ls ∧ ∀ (i : Nat) (v : Value), lo[i]? = some (some v) → ls[i]? = some (.val v)
def t_as (lo : List (Option Value)) : List (Nat × Value) := (List.range lo.length).filterMap (fun i => (lo[i]?.join).map (fun v => (i, v)))
theorem t_as_mem {lo : List (Option Value)} {i : Nat} {v : Value} : (i, v) ∈ t_as lo ↔ lo[i]? = some (some v) := by
  unfold t_as
  rw [List.mem_filterMap]
  constructor
  · rintro ⟨j, -, h⟩
    cases hj : lo[j]? with
    | none => rw [hj] at h; simp at h
    | some w =>
      cases w with
      | none => rw [hj] at h; simp at h
      | some w =>
        rw [hj] at h
        simp at h
        obtain ⟨rfl, rfl⟩ := h
        exact hj
  · intro h
    refine ⟨i, List.mem_range.mpr (List.getElem?_eq_some_iff.mp h).1, ?_⟩
    rw [h]
    rfl
theorem t_L.has {ls : Array Slot} {nL : Nat} {lo : List (Option Value)} (h : t_L ls nL lo) : lv_has ls nL (t_as lo) := ⟨h.1, h.2.1, fun q hq => h.2.2 q.1 q.2 (t_as_mem.mp hq)⟩
/-- no long stands just ahead of place i -/
def t_nl (lo : List (Option Value)) (i : Nat) : Bool := match i with
  | 0 => true
  | k + 1 => match lo[k]? with
    | some (some v) => v.category == 1
    | _ => true
theorem t_L.set {ls : Array Slot} {nL : Nat} {lo : List (Option Value)} {i : Nat} {v : Value} (hn : t_nl lo i = true) (h : lv_has ls nL ((i, v) :: (t_as lo).filter (fun q => !(q.1 == i) && !(q.1 + 1 == i && q.2.category == 2)))) : t_L ls nL (lo.set i (some v)) := by
  refine ⟨h.1, h.2.1, fun j w hj => ?_⟩
  by_cases hji : j = i
  · subst hji
    have hl : j < (lo.set j (some v)).length := (List.getElem?_eq_some_iff.mp hj).1
    rw [List.getElem?_set_self (by simpa using hl)] at hj
    have e : v = w := by simpa using hj
    exact h.2.2 (j, w) (by rw [e]; exact List.mem_cons_self)
  · rw [List.getElem?_set_ne (fun e => hji e.symm)] at hj
    refine h.2.2 (j, w) (List.mem_cons_of_mem _ (List.mem_filter.mpr ⟨t_as_mem.mpr hj, ?_⟩))
    have h1 : (j == i) = false := by simpa using hji
    have h2 : (j + 1 == i && w.category == 2) = false := by
      by_cases hk : j + 1 = i
      · subst hk
        simp only [t_nl, hj] at hn
        have hc : w.category = 1 := by simpa using hn
        simp [hc]
      · have : (j + 1 == i) = false := by simpa using hk
        rw [this]; rfl
    show (!(j == i) && !(j + 1 == i && w.category == 2)) = true
    rw [h1, h2]; rfl
theorem t_L.set2 {ls : Array Slot} {nL : Nat} {lo : List (Option Value)} {i : Nat} {v : Value} (hn : t_nl lo i = true) (h : lv_has ls nL ((i, v) :: (t_as lo).filter (fun q => !(q.1 == i) && (!(q.1 == i + 1) && !(q.1 + 1 == i && q.2.category == 2))))) : t_L ls nL ((lo.set i (some v)).set (i + 1) none) := by
  refine ⟨h.1, h.2.1, fun j w hj => ?_⟩
  by_cases hj1 : j = i + 1
  · subst hj1
    exfalso
    have hl := (List.getElem?_eq_some_iff.mp hj).1
    rw [List.getElem?_set_self (by simpa using hl)] at hj
    cases hj
  · rw [List.getElem?_set_ne (fun e => hj1 e.symm)] at hj
    by_cases hji : j = i
    · subst hji
      have hl : j < (lo.set j (some v)).length := (List.getElem?_eq_some_iff.mp hj).1
      rw [List.getElem?_set_self (by simpa using hl)] at hj
      have e : v = w := by simpa using hj
      exact h.2.2 (j, w) (by rw [e]; exact List.mem_cons_self)
    · rw [List.getElem?_set_ne (fun e => hji e.symm)] at hj
      refine h.2.2 (j, w) (List.mem_cons_of_mem _ (List.mem_filter.mpr ⟨t_as_mem.mpr hj, ?_⟩))
      have h1 : (j == i) = false := by simpa using hji
      have h3 : (j == i + 1) = false := by simpa using hj1
      have h2 : (j + 1 == i && w.category == 2) = false := by
        by_cases hk : j + 1 = i
        · subst hk
          simp only [t_nl, hj] at hn
          have hc : w.category = 1 := by simpa using hn
          simp [hc]
        · have : (j + 1 == i) = false := by simpa using hk
          rw [this]; rfl
      show (!(j == i) && (!(j == i + 1) && !(j + 1 == i && w.category == 2))) = true
      rw [h1, h2, h3]; rfl
/-- how a method may end at pc with the answer v -/
def t_end (q : t_MI) (pc : Nat) (v : Option Value) : Prop := (v = none ∧ q.2.2.2 = none ∧ decode q.2.1 pc = .ok (.return_, 1)) ∨ (∃ (x : Int32) (ty : FieldType), v = some (.int x) ∧ q.2.2.2 = some ty ∧ narrow ty (.int x) = .int x ∧ decode q.2.1 pc = .ok (.ireturn, 1)) ∨ (∃ (w : Value) (ty : FieldType), v = some w ∧ q.2.2.2 = some ty ∧ ((∃ n, ty = .object n) ∨ ∃ t, ty = .array t) ∧ (w = .null ∨ ∃ a, w = .ref a) ∧ decode q.2.1 pc = .ok (.areturn, 1))
abbrev t_Q : Type := Option Value → Nat → Nat → t_M → Prop
/-- from pc on the method comes to an end with an outcome that Q holds of -/
def tT (g : t_G) (q : t_MI) (d pc : Nat) (lo : List (Option Value)) (st : List Value) (n u : Nat) (E : t_M) (Q : t_Q) : Prop :=
  ∃ (v : Option Value) (n' u' : Nat) (E' : t_M), Q v n' u' E' ∧ n ≤ n' ∧ u ≤ u' ∧
    ∀ (p : Program) (e : Env) (R : Room) (s : State) (m : MethodId) (args : Array Value) (below : List Frame) (meth : Method) (c : Code) (H : Heap) (locs : List Loc) (ls : Array Slot) (cells slots : Nat) (Qs : State → Prop),
      t_C g q d p R s m args meth c → t_R g n E H → t_low (t_z g) s.heap H → (∀ x ∈ locs, t_z g ≤ x.base) → t_L ls q.2.2.1 lo → cells + (n' - n) ≤ R.cells → slots + (u' - u) ≤ R.slots →
      (∀ (pc' : Nat) (ls' : Array Slot) (H' : Heap) (locs' : List Loc), t_R g n' E' H' → t_low (t_z g) s.heap H' → (∀ x ∈ locs', t_z g ≤ x.base) → t_end q pc' v → W p g.1 e R s m args below meth c H' locs' (cells + (n' - n)) (slots + (u' - u)) Qs (F0 m pc' ls' v.toList)) →
      W p g.1 e R s m args below meth c H locs cells slots Qs (F0 m pc ls st)
theorem T_gen {g : t_G} {q : t_MI} {d pc pc' : Nat} {lo lo' : List (Option Value)} {st st' : List Value} {n u n1 u1 : Nat} {E E1 : t_M} {Q : t_Q} (hn : n ≤ n1) (hu : u ≤ u1)
    (hs : ∀ (p : Program) (e : Env) (R : Room) (s : State) (m : MethodId) (args : Array Value) (below : List Frame) (meth : Method) (c : Code) (H : Heap) (locs : List Loc) (ls : Array Slot) (cells slots : Nat) (Qs : State → Prop),
      t_C g q d p R s m args meth c → t_R g n E H → t_low (t_z g) s.heap H → (∀ x ∈ locs, t_z g ≤ x.base) → t_L ls q.2.2.1 lo → cells + (n1 - n) ≤ R.cells → slots + (u1 - u) ≤ R.slots →
      (∀ (H' : Heap) (locs' : List Loc) (ls' : Array Slot), t_R g n1 E1 H' → t_low (t_z g) s.heap H' → (∀ x ∈ locs', t_z g ≤ x.base) → t_L ls' q.2.2.1 lo' → W p g.1 e R s m args below meth c H' locs' (cells + (n1 - n)) (slots + (u1 - u)) Qs (F0 m pc' ls' st')) →
      W p g.1 e R s m args below meth c H locs cells slots Qs (F0 m pc ls st))
    (h : tT g q d pc' lo' st' n1 u1 E1 Q) : tT g q d pc lo st n u E Q := by
  obtain ⟨v, n', u', E', hQ, h1, h2, h⟩ := h
  refine ⟨v, n', u', E', hQ, Nat.le_trans hn h1, Nat.le_trans hu h2, ?_⟩
  intro p e R s m args below meth c H locs ls cells slots Qs hC hR hlow hloc hL hc hsl k
  refine hs p e R s m args below meth c H locs ls cells slots Qs hC hR hlow hloc hL (by omega) (by omega) ?_
  intro H' locs' ls' hR' hlow' hloc' hL'
  have e1 : cells + (n1 - n) + (n' - n1) = cells + (n' - n) := by omega
  have e2 : slots + (u1 - u) + (u' - u1) = slots + (u' - u) := by omega
  refine h p e R s m args below meth c H' locs' ls' (cells + (n1 - n)) (slots + (u1 - u)) Qs hC hR' hlow' hloc' hL' (by omega) (by omega) ?_
  rw [e1, e2]
  exact k
/-- a step that leaves memory and locals -/
theorem T_pure {g : t_G} {q : t_MI} {d pc pc' : Nat} {lo : List (Option Value)} {st st' : List Value} {n u : Nat} {E : t_M} {Q : t_Q}
    (hs : ∀ (p : Program) (e : Env) (R : Room) (s : State) (m : MethodId) (args : Array Value) (below : List Frame) (meth : Method) (c : Code) (H : Heap) (locs : List Loc) (ls : Array Slot) (cells slots : Nat) (Qs : State → Prop),
      t_C g q d p R s m args meth c → t_R g n E H → t_low (t_z g) s.heap H → t_L ls q.2.2.1 lo → W p g.1 e R s m args below meth c H locs cells slots Qs (F0 m pc' ls st') → W p g.1 e R s m args below meth c H locs cells slots Qs (F0 m pc ls st))
    (h : tT g q d pc' lo st' n u E Q) : tT g q d pc lo st n u E Q :=
  T_gen (Nat.le_refl n) (Nat.le_refl u) (fun p e R s m args below meth c H locs ls cells slots Qs hC hR hlow hloc hL _ _ k => hs p e R s m args below meth c H locs ls cells slots Qs hC hR hlow hL (by have := k H locs ls hR hlow hloc hL; rwa [Nat.sub_self, Nat.sub_self, Nat.add_zero, Nat.add_zero] at this)) h
/-- a step that stores into the locals -/
theorem T_loc {g : t_G} {q : t_MI} {d pc pc' : Nat} {lo lo' : List (Option Value)} {st st' : List Value} {n u : Nat} {E : t_M} {Q : t_Q}
    (hs : ∀ (p : Program) (e : Env) (R : Room) (s : State) (m : MethodId) (args : Array Value) (below : List Frame) (meth : Method) (c : Code) (H : Heap) (locs : List Loc) (ls : Array Slot) (cells slots : Nat) (Qs : State → Prop),
      t_C g q d p R s m args meth c → t_L ls q.2.2.1 lo → (∀ ls' : Array Slot, t_L ls' q.2.2.1 lo' → W p g.1 e R s m args below meth c H locs cells slots Qs (F0 m pc' ls' st')) → W p g.1 e R s m args below meth c H locs cells slots Qs (F0 m pc ls st))
    (h : tT g q d pc' lo' st' n u E Q) : tT g q d pc lo st n u E Q :=
  T_gen (Nat.le_refl n) (Nat.le_refl u) (fun p e R s m args below meth c H locs ls cells slots Qs hC hR hlow hloc hL _ _ k => hs p e R s m args below meth c H locs ls cells slots Qs hC hL (fun ls' hL' => by have := k H locs ls' hR hlow hloc hL'; rwa [Nat.sub_self, Nat.sub_self, Nat.add_zero, Nat.add_zero] at this)) h
/-- a step that writes a cell -/
theorem T_mem {g : t_G} {q : t_MI} {d pc pc' : Nat} {lo : List (Option Value)} {st st' : List Value} {n u : Nat} {E E1 : t_M} {Q : t_Q}
    (hs : ∀ (p : Program) (e : Env) (R : Room) (s : State) (m : MethodId) (args : Array Value) (below : List Frame) (meth : Method) (c : Code) (H : Heap) (locs : List Loc) (ls : Array Slot) (cells slots : Nat) (Qs : State → Prop),
      t_C g q d p R s m args meth c → t_R g n E H → t_low (t_z g) s.heap H → (∀ x ∈ locs, t_z g ≤ x.base) → t_L ls q.2.2.1 lo → (∀ (H' : Heap) (locs' : List Loc), t_R g n E1 H' → t_low (t_z g) s.heap H' → (∀ x ∈ locs', t_z g ≤ x.base) → W p g.1 e R s m args below meth c H' locs' cells slots Qs (F0 m pc' ls st')) → W p g.1 e R s m args below meth c H locs cells slots Qs (F0 m pc ls st))
    (h : tT g q d pc' lo st' n u E1 Q) : tT g q d pc lo st n u E Q :=
  T_gen (Nat.le_refl n) (Nat.le_refl u) (fun p e R s m args below meth c H locs ls cells slots Qs hC hR hlow hloc hL _ _ k => hs p e R s m args below meth c H locs ls cells slots Qs hC hR hlow hloc hL (fun H' locs' a b w => by have := k H' locs' ls a b w hL; rwa [Nat.sub_self, Nat.sub_self, Nat.add_zero, Nat.add_zero] at this)) h
section TR
variable {g : t_G} {q : t_MI} {d pc : Nat} {lo : List (Option Value)} {st : List Value} {n u : Nat} {E : t_M} {Q : t_Q}
theorem T_iconst {i : Int} {v : Int32} (hd : decode q.2.1 pc = .ok (.iconst i, 1)) (hv : Int32.ofInt i = v) (h : tT g q d (pc + 1) lo (.int v :: st) n u E Q) : tT g q d pc lo (st) n u E Q :=
  T_pure (fun _ _ _ _ _ _ _ _ _ _ _ _ _ _ _ C _ _ hL k => lv_iconst C.1 C.2.1 hd hv k) h
theorem T_bipush {i : Int} {v : Int32} (hd : decode q.2.1 pc = .ok (.bipush i, 2)) (hv : (Int8.ofInt i).toInt32 = v) (h : tT g q d (pc + 2) lo (.int v :: st) n u E Q) : tT g q d pc lo (st) n u E Q :=
  T_pure (fun _ _ _ _ _ _ _ _ _ _ _ _ _ _ _ C _ _ hL k => lv_bipush C.1 C.2.1 hd hv k) h
theorem T_sipush {i : Int} {v : Int32} (hd : decode q.2.1 pc = .ok (.sipush i, 3)) (hv : (Int16.ofInt i).toInt32 = v) (h : tT g q d (pc + 3) lo (.int v :: st) n u E Q) : tT g q d pc lo (st) n u E Q :=
  T_pure (fun _ _ _ _ _ _ _ _ _ _ _ _ _ _ _ C _ _ hL k => lv_sipush C.1 C.2.1 hd hv k) h
theorem T_lconst {i : Fin 2} {v : Int64} (hd : decode q.2.1 pc = .ok (.lconst i, 1)) (hv : Int64.ofNat (i : Nat) = v) (h : tT g q d (pc + 1) lo (.long v :: st) n u E Q) : tT g q d pc lo (st) n u E Q :=
  T_pure (fun _ _ _ _ _ _ _ _ _ _ _ _ _ _ _ C _ _ hL k => lv_lconst C.1 C.2.1 hd hv k) h
theorem T_ldc {i : Nat} {v : Int32} (hd : decode q.2.1 pc = .ok (.ldc i, 2)) (hw : Cond.constant q.1.cls i v ∈ tw) (h : tT g q d (pc + 2) lo (.int v :: st) n u E Q) : tT g q d pc lo (st) n u E Q :=
  T_pure (fun _ _ _ _ _ _ _ _ _ _ _ _ _ _ _ C _ _ hL k => lv_ldc C.1 C.2.1 C.2.2.2.2.2.1 (C.2.2.2.2.2.2.1 _ hw) hd k) h
theorem T_ldcw {i : Nat} {v : Int32} (hd : decode q.2.1 pc = .ok (.ldc_w i, 3)) (hw : Cond.constant q.1.cls i v ∈ tw) (h : tT g q d (pc + 3) lo (.int v :: st) n u E Q) : tT g q d pc lo (st) n u E Q :=
  T_pure (fun _ _ _ _ _ _ _ _ _ _ _ _ _ _ _ C _ _ hL k => lv_ldcw C.1 C.2.1 C.2.2.2.2.2.1 (C.2.2.2.2.2.2.1 _ hw) hd k) h
theorem T_ldc2 {i : Nat} {v : Int64} (hd : decode q.2.1 pc = .ok (.ldc2_w i, 3)) (hw : Cond.constantLong q.1.cls i v ∈ tw) (h : tT g q d (pc + 3) lo (.long v :: st) n u E Q) : tT g q d pc lo (st) n u E Q :=
  T_pure (fun _ _ _ _ _ _ _ _ _ _ _ _ _ _ _ C _ _ hL k => lv_ldc2 C.1 C.2.1 C.2.2.2.2.2.1 (C.2.2.2.2.2.2.1 _ hw) hd k) h
theorem T_iload_n {k : Fin 4} {i : Nat} {x : Int32} (hd : decode q.2.1 pc = .ok (.iload_n k, 1)) (hi : (k : Nat) = i) (hl : lo[i]? = some (some (.int x))) (h : tT g q d (pc + 1) lo (.int x :: st) n u E Q) : tT g q d pc lo (st) n u E Q :=
  T_pure (fun _ _ _ _ _ _ _ _ _ _ _ _ _ _ _ C _ _ hL k => lv_iload_n C.1 C.2.1 hd hi (hL.2.2 i _ hl) k) h
theorem T_iload {i : Nat} {x : Int32} (hd : decode q.2.1 pc = .ok (.iload i, 2)) (hl : lo[i]? = some (some (.int x))) (h : tT g q d (pc + 2) lo (.int x :: st) n u E Q) : tT g q d pc lo (st) n u E Q :=
  T_pure (fun _ _ _ _ _ _ _ _ _ _ _ _ _ _ _ C _ _ hL k => lv_iload C.1 C.2.1 hd (hL.2.2 i _ hl) k) h
theorem T_aload_n {k : Fin 4} {i : Nat} {x : Nat} (hd : decode q.2.1 pc = .ok (.aload_n k, 1)) (hi : (k : Nat) = i) (hl : lo[i]? = some (some (.ref x))) (h : tT g q d (pc + 1) lo (.ref x :: st) n u E Q) : tT g q d pc lo (st) n u E Q :=
  T_pure (fun _ _ _ _ _ _ _ _ _ _ _ _ _ _ _ C _ _ hL k => lv_aload_n C.1 C.2.1 hd hi (hL.2.2 i _ hl) k) h
theorem T_aload {i : Nat} {x : Nat} (hd : decode q.2.1 pc = .ok (.aload i, 2)) (hl : lo[i]? = some (some (.ref x))) (h : tT g q d (pc + 2) lo (.ref x :: st) n u E Q) : tT g q d pc lo (st) n u E Q :=
  T_pure (fun _ _ _ _ _ _ _ _ _ _ _ _ _ _ _ C _ _ hL k => lv_aload C.1 C.2.1 hd (hL.2.2 i _ hl) k) h
theorem T_lload_n {k : Fin 4} {i : Nat} {x : Int64} (hd : decode q.2.1 pc = .ok (.lload_n k, 1)) (hi : (k : Nat) = i) (hl : lo[i]? = some (some (.long x))) (h : tT g q d (pc + 1) lo (.long x :: st) n u E Q) : tT g q d pc lo (st) n u E Q :=
  T_pure (fun _ _ _ _ _ _ _ _ _ _ _ _ _ _ _ C _ _ hL k => lv_lload_n C.1 C.2.1 hd hi (hL.2.2 i _ hl) k) h
theorem T_lload {i : Nat} {x : Int64} (hd : decode q.2.1 pc = .ok (.lload i, 2)) (hl : lo[i]? = some (some (.long x))) (h : tT g q d (pc + 2) lo (.long x :: st) n u E Q) : tT g q d pc lo (st) n u E Q :=
  T_pure (fun _ _ _ _ _ _ _ _ _ _ _ _ _ _ _ C _ _ hL k => lv_lload C.1 C.2.1 hd (hL.2.2 i _ hl) k) h
theorem T_istore_n {k : Fin 4} {i : Nat} {x : Int32} (hd : decode q.2.1 pc = .ok (.istore_n k, 1)) (hi : (k : Nat) = i) (hn : i < q.2.2.1) (hl : t_nl lo i = true) (h : tT g q d (pc + 1) (lo.set i (some (.int x))) st n u E Q) : tT g q d pc lo (.int x :: st) n u E Q :=
  T_loc (fun _ _ _ _ _ _ _ _ _ _ _ _ _ _ _ C hL k => lv_istore_n C.1 C.2.1 hd hi hL.has hn rfl (fun ls' h' => k ls' (t_L.set hl h'))) h
theorem T_istore {i : Nat} {x : Int32} (hd : decode q.2.1 pc = .ok (.istore i, 2)) (hn : i < q.2.2.1) (hl : t_nl lo i = true) (h : tT g q d (pc + 2) (lo.set i (some (.int x))) st n u E Q) : tT g q d pc lo (.int x :: st) n u E Q :=
  T_loc (fun _ _ _ _ _ _ _ _ _ _ _ _ _ _ _ C hL k => lv_istore C.1 C.2.1 hd hL.has hn rfl (fun ls' h' => k ls' (t_L.set hl h'))) h
theorem T_astore_n {k : Fin 4} {i : Nat} {x : Nat} (hd : decode q.2.1 pc = .ok (.astore_n k, 1)) (hi : (k : Nat) = i) (hn : i < q.2.2.1) (hl : t_nl lo i = true) (h : tT g q d (pc + 1) (lo.set i (some (.ref x))) st n u E Q) : tT g q d pc lo (.ref x :: st) n u E Q :=
  T_loc (fun _ _ _ _ _ _ _ _ _ _ _ _ _ _ _ C hL k => lv_astore_n C.1 C.2.1 hd hi hL.has hn rfl (fun ls' h' => k ls' (t_L.set hl h'))) h
theorem T_astore {i : Nat} {x : Nat} (hd : decode q.2.1 pc = .ok (.astore i, 2)) (hn : i < q.2.2.1) (hl : t_nl lo i = true) (h : tT g q d (pc + 2) (lo.set i (some (.ref x))) st n u E Q) : tT g q d pc lo (.ref x :: st) n u E Q :=
  T_loc (fun _ _ _ _ _ _ _ _ _ _ _ _ _ _ _ C hL k => lv_astore C.1 C.2.1 hd hL.has hn rfl (fun ls' h' => k ls' (t_L.set hl h'))) h
theorem T_lstore {i : Nat} {x : Int64} (hd : decode q.2.1 pc = .ok (.lstore i, 2)) (hn : i + 1 < q.2.2.1) (hl : t_nl lo i = true) (h : tT g q d (pc + 2) ((lo.set i (some (.long x))).set (i + 1) none) st n u E Q) : tT g q d pc lo (.long x :: st) n u E Q :=
  T_loc (fun _ _ _ _ _ _ _ _ _ _ _ _ _ _ _ C hL k => lv_lstore C.1 C.2.1 hd hL.has hn rfl (fun ls' h' => k ls' (t_L.set2 hl h'))) h
theorem T_lstore_n {k : Fin 4} {i : Nat} {x : Int64} (hd : decode q.2.1 pc = .ok (.lstore_n k, 1)) (hi : (k : Nat) = i) (hn : i + 1 < q.2.2.1) (hl : t_nl lo i = true) (h : tT g q d (pc + 1) ((lo.set i (some (.long x))).set (i + 1) none) st n u E Q) : tT g q d pc lo (.long x :: st) n u E Q :=
  T_loc (fun _ _ _ _ _ _ _ _ _ _ _ _ _ _ _ C hL k => lv_lstore_n C.1 C.2.1 hd hi hL.has hn rfl (fun ls' h' => k ls' (t_L.set2 hl h'))) h
theorem T_iadd {x y : Int32} (hd : decode q.2.1 pc = .ok (.iadd, 1)) (h : tT g q d (pc + 1) lo (.int (x + y) :: st) n u E Q) : tT g q d pc lo (.int y :: .int x :: st) n u E Q :=
  T_pure (fun _ _ _ _ _ _ _ _ _ _ _ _ _ _ _ C _ _ hL k => lv_iadd C.1 C.2.1 hd k) h
theorem T_isub {x y : Int32} (hd : decode q.2.1 pc = .ok (.isub, 1)) (h : tT g q d (pc + 1) lo (.int (x - y) :: st) n u E Q) : tT g q d pc lo (.int y :: .int x :: st) n u E Q :=
  T_pure (fun _ _ _ _ _ _ _ _ _ _ _ _ _ _ _ C _ _ hL k => lv_isub C.1 C.2.1 hd k) h
theorem T_imul {x y : Int32} (hd : decode q.2.1 pc = .ok (.imul, 1)) (h : tT g q d (pc + 1) lo (.int (x * y) :: st) n u E Q) : tT g q d pc lo (.int y :: .int x :: st) n u E Q :=
  T_pure (fun _ _ _ _ _ _ _ _ _ _ _ _ _ _ _ C _ _ hL k => lv_imul C.1 C.2.1 hd k) h
theorem T_iand {x y : Int32} (hd : decode q.2.1 pc = .ok (.iand, 1)) (h : tT g q d (pc + 1) lo (.int (x &&& y) :: st) n u E Q) : tT g q d pc lo (.int y :: .int x :: st) n u E Q :=
  T_pure (fun _ _ _ _ _ _ _ _ _ _ _ _ _ _ _ C _ _ hL k => lv_iand C.1 C.2.1 hd k) h
theorem T_ior {x y : Int32} (hd : decode q.2.1 pc = .ok (.ior, 1)) (h : tT g q d (pc + 1) lo (.int (x ||| y) :: st) n u E Q) : tT g q d pc lo (.int y :: .int x :: st) n u E Q :=
  T_pure (fun _ _ _ _ _ _ _ _ _ _ _ _ _ _ _ C _ _ hL k => lv_ior C.1 C.2.1 hd k) h
theorem T_ladd {x y : Int64} (hd : decode q.2.1 pc = .ok (.ladd, 1)) (h : tT g q d (pc + 1) lo (.long (x + y) :: st) n u E Q) : tT g q d pc lo (.long y :: .long x :: st) n u E Q :=
  T_pure (fun _ _ _ _ _ _ _ _ _ _ _ _ _ _ _ C _ _ hL k => lv_ladd C.1 C.2.1 hd k) h
theorem T_lsub {x y : Int64} (hd : decode q.2.1 pc = .ok (.lsub, 1)) (h : tT g q d (pc + 1) lo (.long (x - y) :: st) n u E Q) : tT g q d pc lo (.long y :: .long x :: st) n u E Q :=
  T_pure (fun _ _ _ _ _ _ _ _ _ _ _ _ _ _ _ C _ _ hL k => lv_lsub C.1 C.2.1 hd k) h
theorem T_lmul {x y : Int64} (hd : decode q.2.1 pc = .ok (.lmul, 1)) (h : tT g q d (pc + 1) lo (.long (x * y) :: st) n u E Q) : tT g q d pc lo (.long y :: .long x :: st) n u E Q :=
  T_pure (fun _ _ _ _ _ _ _ _ _ _ _ _ _ _ _ C _ _ hL k => lv_lmul C.1 C.2.1 hd k) h
theorem T_land {x y : Int64} (hd : decode q.2.1 pc = .ok (.land, 1)) (h : tT g q d (pc + 1) lo (.long (x &&& y) :: st) n u E Q) : tT g q d pc lo (.long y :: .long x :: st) n u E Q :=
  T_pure (fun _ _ _ _ _ _ _ _ _ _ _ _ _ _ _ C _ _ hL k => lv_land C.1 C.2.1 hd k) h
theorem T_lor {x y : Int64} (hd : decode q.2.1 pc = .ok (.lor, 1)) (h : tT g q d (pc + 1) lo (.long (x ||| y) :: st) n u E Q) : tT g q d pc lo (.long y :: .long x :: st) n u E Q :=
  T_pure (fun _ _ _ _ _ _ _ _ _ _ _ _ _ _ _ C _ _ hL k => lv_lor C.1 C.2.1 hd k) h
theorem T_lcmp {x y : Int64} (hd : decode q.2.1 pc = .ok (.lcmp, 1)) (h : tT g q d (pc + 1) lo (.int (lg_cmp x y) :: st) n u E Q) : tT g q d pc lo (.long y :: .long x :: st) n u E Q :=
  T_pure (fun _ _ _ _ _ _ _ _ _ _ _ _ _ _ _ C _ _ hL k => W.lcmp C.1 C.2.1 hd k) h
theorem T_dup {v : Value} (hd : decode q.2.1 pc = .ok (.dup, 1)) (hc : v.category = 1) (h : tT g q d (pc + 1) lo (v :: v :: st) n u E Q) : tT g q d pc lo (v :: st) n u E Q :=
  T_pure (fun _ _ _ _ _ _ _ _ _ _ _ _ _ _ _ C _ _ hL k => lv_dup C.1 C.2.1 hd hc k) h
theorem T_pop {v : Value} (hd : decode q.2.1 pc = .ok (.pop, 1)) (hc : v.category = 1) (h : tT g q d (pc + 1) lo (st) n u E Q) : tT g q d pc lo (v :: st) n u E Q :=
  T_pure (fun _ _ _ _ _ _ _ _ _ _ _ _ _ _ _ C _ _ hL k => lv_pop C.1 C.2.1 hd hc k) h
theorem T_dup_x1 {v w : Value} (hd : decode q.2.1 pc = .ok (.dup_x1, 1)) (hc : v.category = 1) (hc2 : w.category = 1) (h : tT g q d (pc + 1) lo (v :: w :: v :: st) n u E Q) : tT g q d pc lo (v :: w :: st) n u E Q :=
  T_pure (fun _ _ _ _ _ _ _ _ _ _ _ _ _ _ _ C _ _ hL k => lv_dup_x1 C.1 C.2.1 hd hc hc2 k) h
theorem T_dup2 {v w : Value} (hd : decode q.2.1 pc = .ok (.dup2, 1)) (hc : v.category = 1) (hc2 : w.category = 1) (h : tT g q d (pc + 1) lo (v :: w :: v :: w :: st) n u E Q) : tT g q d pc lo (v :: w :: st) n u E Q :=
  T_pure (fun _ _ _ _ _ _ _ _ _ _ _ _ _ _ _ C _ _ hL k => lv_dup2_11 C.1 C.2.1 hd hc hc2 k) h
end TR
