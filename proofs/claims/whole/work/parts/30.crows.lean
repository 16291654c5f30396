/-! more rows: System.arraycopy of ints, a new row of references -/
section TX
variable {g : t_G} {q : t_MI} {d pc : Nat} {lo : List (Option Value)} {st : List Value} {n u : Nat} {E : t_M} {Q : t_Q}
theorem T_copyI {idx a0 a n0 n1 : Nat} {f f1 : Nat → Int32} {sp dp k : Int32} (hd : decode q.2.1 pc = .ok (.invokestatic idx, 3)) (hl : Cond.methodLink q.1.cls idx arraycopyName ∈ tw) (hnat : Cond.native arraycopyName ∈ tw) (hsta : Cond.static arraycopyName ∈ tw) (hini : Cond.initialized "java/lang/System" ∈ tw) (ha0 : t_z g ≤ a0 ∧ a0 < t_z g + n) (hE0 : E a0 = .inl (t_cI g, n0, .inl f)) (ha1 : t_z g ≤ a ∧ a < t_z g + n) (hE1 : E a = .inl (t_cI g, n1, .inl f1)) (h1 : ¬ sp < 0) (h2 : ¬ dp < 0) (h3 : ¬ k < 0) (h4 : sp.toNatClampNeg + k.toNatClampNeg ≤ n0) (h5 : dp.toNatClampNeg + k.toNatClampNeg ≤ n1) (hdd : 1 ≤ d) (hst : (st.map fun v => v.category).sum ≤ 8) (h : tT g q d (pc + 3) lo st n u (va_up E a (.inl (t_cI g, n1, .inl (va_cpy f f1 sp.toNatClampNeg dp.toNatClampNeg k.toNatClampNeg)))) Q) : tT g q d pc lo (.int k :: .int dp :: .ref a :: .int sp :: .ref a0 :: st) n u E Q := by
  refine T_mem (fun p e R s m args below meth c H locs ls cells slots Qs cx hR hlow hloc hL kk => ?_) h
  have hts := cx.2.2.2.2.2.2.1
  have hK := cx.2.2.2.2.2.2.2.2.2.2.1
  have nn : ∀ z : Int32, ¬ z < 0 → z.toInt = (z.toNatClampNeg : Int) := by
    intro z hz
    have hz0 : (0 : Int) ≤ z.toInt := by
      have := Int32.not_lt.mp hz
      simpa using Int32.le_iff_toInt_le.mp this
    show z.toInt = ((z.toInt.toNat : Nat) : Int)
    omega
  intro T hT X
  have hc0 : H[a0]? = some (vp_cell (t_cI g) (n0, .inl f)) := hR.at ha0 hE0
  have hc1 : H[a]? = some (vp_cell (t_cI g) (n1, .inl f1)) := hR.at ha1 hE1
  obtain ⟨-, k0, hk0, cm0, hkk0⟩ := (hK.2 0 _ rfl).1 n0 (fun j => .int (f j))
  obtain ⟨-, k1, hk1, cm1, hkk1⟩ := (hK.2 0 _ rfl).1 n1 (fun j => .int (f1 j))
  obtain ⟨vm', X', step⟩ := X.arraycopy cx.1 cx.2.2.2.2.2.1 (hts _ hl) (hts _ hnat) (hts _ hsta) (hts _ hini) (src := a0) (dst := a) (cs := vp_cell (t_cI g) (n0, .inl f)) (cd := vp_cell (t_cI g) (n1, .inl f1)) (srcPos := sp) (destPos := dp) (n := k) (by rw [hT]; exact hc0) (by rw [hT]; exact hc1)
    (fun _ h => by cases h) (fun _ h => by cases h) (fun h => by cases h) (fun h => by cases h) hk0 hk1 hkk0 hkk1 (by simp [show refKind FieldType.int = false from rfl]) h1 h2 h3
    (by rw [nn sp h1, nn k h3]; show ¬ _ > ((arrV (t_cI g) n0 (fun j => .int (f j))).slots.size : Int); rw [arrV_size]; omega)
    (by rw [nn dp h2, nn k h3]; show ¬ _ > ((arrV (t_cI g) n1 (fun j => .int (f1 j))).slots.size : Int); rw [arrV_size]; omega)
    (fun vm₁ _ i hi => by
      have e : (vp_cell (t_cI g) (n0, .inl f)).slots.getD (sp.toNatClampNeg + i) .null = .int (f (sp.toNatClampNeg + i)) := by
        show (arrV (t_cI g) n0 (fun j => .int (f j))).slots.getD _ _ = _
        rw [Array.getD_eq_getD_getElem?, arrV_read _ _ (by omega)]
        rfl
      refine ⟨?_, ?_⟩
      · rw [e]
        rfl
      · rw [e]
        exact trivial)
    (g := F0 m pc ls (.int k :: .int dp :: .ref a :: .int sp :: .ref a0 :: st)) rfl (hL.1.trans cx.2.2.1.symm) (rest := st) rfl (by rw [cx.2.1]; exact hd) (Nat.le_trans hdd cx.2.2.2.2.2.2.2.2.1) (by
      have h39 := cx.2.2.2.2.2.2.2.2.2.1
      have hw : nativeFrameWords "java/lang/System" "arraycopy" 5 = 7 := by decide
      show 2 * 0 + _ + _ ≤ _
      omega)
  have e1 : copied (vp_cell (t_cI g) (n0, .inl f)) (vp_cell (t_cI g) (n1, .inl f1)) sp dp k = vp_cell (t_cI g) (n1, .inl (va_cpy f f1 sp.toNatClampNeg dp.toNatClampNeg k.toNatClampNeg)) := va_copied (fun z => .int z) (t_cI g) (t_cI g) f f1 h4
  rw [e1] at X' step
  have hl : a < H.size := (Array.getElem?_eq_some_iff.mp hc1).1
  have hheap : ((T.setVm vm').setCell a (vp_cell (t_cI g) (n1, .inl (va_cpy f f1 sp.toNatClampNeg dp.toNatClampNeg k.toNatClampNeg)))).heap = H.setIfInBounds a (vp_cell (t_cI g) (n1, .inl (va_cpy f f1 sp.toNatClampNeg dp.toNatClampNeg k.toNatClampNeg))) := by rw [← hT]; rfl
  have oq : ∀ q : Nat, q ≠ a → (H.setIfInBounds a (vp_cell (t_cI g) (n1, .inl (va_cpy f f1 sp.toNatClampNeg dp.toNatClampNeg k.toNatClampNeg))))[q]? = H[q]? := fun q hq => by simp [Array.getElem?_setIfInBounds, Ne.symm hq]
  obtain ⟨t, a1, b1⟩ := kk _ _ (hR.up (by simp) oq (show (H.setIfInBounds a _)[a]? = some _ by simp [Array.getElem?_setIfInBounds, hl])) (hlow.put ha1.1 oq) (fun y hy => by
      rcases List.mem_append.mp hy with hy | hy
      · exact hloc y hy
      · obtain ⟨z, -, hz⟩ := List.mem_map.mp hy
        rw [← hz]
        exact ha1.1) _ hheap X'
  exact ⟨t, step t a1, b1⟩
theorem N_copy {idx a0 a n0 n1 : Nat} {f f1 : Nat → Int32} {sp dp k : Nat} (hd : decode q.2.1 pc = .ok (.invokestatic idx, 3)) (hl : Cond.methodLink q.1.cls idx arraycopyName ∈ tw) (hnat : Cond.native arraycopyName ∈ tw) (hsta : Cond.static arraycopyName ∈ tw) (hini : Cond.initialized "java/lang/System" ∈ tw) (ha0 : t_z g ≤ a0 ∧ a0 < t_z g + n) (hE0 : E a0 = .inl (t_cI g, n0, .inl f)) (ha1 : t_z g ≤ a ∧ a < t_z g + n) (hE1 : E a = .inl (t_cI g, n1, .inl f1)) (h4 : sp + k ≤ n0) (h5 : dp + k ≤ n1) (hn0 : n0 < 2 ^ 31) (hn1 : n1 < 2 ^ 31) (hdd : 1 ≤ d) (hst : (st.map fun v => v.category).sum ≤ 8) (h : tT g q d (pc + 3) lo st n u (va_up E a (.inl (t_cI g, n1, .inl (va_cpy f f1 sp dp k)))) Q) : tT g q d pc lo (.int (nI k) :: .int (nI dp) :: .ref a :: .int (nI sp) :: .ref a0 :: st) n u E Q := by
  have e1 : (nI sp).toNatClampNeg = sp := nI_clamp (by omega)
  have e2 : (nI dp).toNatClampNeg = dp := nI_clamp (by omega)
  have e3 : (nI k).toNatClampNeg = k := nI_clamp (by omega)
  have nn : ∀ b : Nat, b < 2 ^ 31 → ¬ nI b < 0 := fun b h => Int32.not_lt.mpr ((nI_leI (by decide) h).mpr (Nat.zero_le b))
  refine T_copyI hd hl hnat hsta hini ha0 hE0 ha1 hE1 (nn _ (by omega)) (nn _ (by omega)) (nn _ (by omega)) (by rw [e1, e3]; exact h4) (by rw [e2, e3]; exact h5) hdd hst ?_
  rw [e1, e2, e3]
  exact h
theorem T_anew {idx t0 : Nat} {C : String} {x : Int32} {N : Nat} {cA : ClassId} (hd : decode q.2.1 pc = .ok (.anewarray idx, 3)) (hcl : Cond.classLink q.1.cls idx C ∈ tw) (hC : (C = RX3 ∧ t0 = 2) ∨ (C = RX7 ∧ t0 = 3)) (ht : (t_ty g)[t0]? = some (cA, .object C)) (hx : ¬ x < 0) (hN : x.toNatClampNeg = N) (hb : N * 4 ≤ 536870912) (h : tT g q d (pc + 3) lo (.ref (t_z g + n) :: st) (n + 1) (u + N) (va_up E (t_z g + n) (.inl (cA, N, .inr (.inr (.inr (.inr (fun _ => none))))))) Q) : tT g q d pc lo (.int x :: st) n u E Q := by
  refine T_gen (Nat.le_add_right n 1) (Nat.le_add_right u N) (fun p e R s m args below meth c H locs ls cells slots Qs cx hR hlow hloc hL hcs hsl kk => ?_) h
  rw [Nat.add_sub_cancel_left] at hcs hsl kk
  rw [Nat.add_sub_cancel_left] at kk
  have hK := cx.2.2.2.2.2.2.2.2.2.2
  have hov : va_AO C s := by
    rcases hC with ⟨rfl, -⟩ | ⟨rfl, -⟩
    · exact hK.2.2.1
    · exact hK.2.2.2.1
  subst hN
  refine W.anew cx.1 cx.2.1 cx.2.2.2.2.2.1 (cx.2.2.2.2.2.2.1 _ hcl) (va_AO.use hov) rfl hd rfl hx hb hcs hsl fun cA' kA comp f1 f2 f3 f4 => ?_
  have hcA : cA' = cA := by
    obtain ⟨-, kB, compB, g1, g2, g3, g4⟩ := hK.1.2 t0 _ ht
    exact Option.some.inj (f1.symm.trans g4)
  subst hcA
  generalize hH1 : H.push ({ cls := cA', slots := Array.replicate x.toNatClampNeg .null, vm := .none } : Cell) = H1
  have z1 : H1.size = H.size + 1 := by rw [← hH1, Array.size_push]
  have e1 : H1[H.size]? = some (arrV cA' x.toNatClampNeg (fun _ => .null)) := by rw [← hH1, Array.getElem?_push_size, ← arrV_new]
  have o1 : ∀ q : Nat, q < H.size → H1[q]? = H[q]? := fun q hq => by rw [← hH1, Array.getElem?_push, if_neg (Nat.ne_of_lt hq)]
  rw [hR.1] at e1 o1 ⊢
  refine kk H1 locs ls (hR.push (by rw [z1, hR.1]) o1 ?_) (hlow.push (Nat.le_add_right _ n) o1) hloc hL
  show H1[t_z g + n]? = some (vp_cell _ _)
  rw [vp_cell_q]
  exact e1
end TX
