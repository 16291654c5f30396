/-! THE CLAIM OUT OF ONE WALK OF THE LAW'S BODY. Your part is whole_start (and what it stands on); all else here is the same for every law, but numbers. -/
def R_law : String := "WorkEndsLaw"
def lw_P (b : Addr) (xs : List Int32) (args : Array Value) (s : State) : Prop := args = #[.ref b] ∧ s.IntsAt b xs ∧ xs.length ≤ 3072 ∧ (Jvm.Cond.and given_1 narrow_1).before args s = true
def lw_Q (_ : Array Value) (s : State) (o : Outcome) (t : State) : Prop := o = .returned (some (.int 1)) ∧ Framed s o t [] 600000 7302250
def lw_Z (below : List Frame) (a : Array Value) (s : State) : State → Prop := fun t => ∃ o, t.status = .running ∧ Ended t below o ∧ lw_Q a s o t
/-- the law's own end, with 1 on the stack, nothing written that was there before, its room as the claim has it -/
theorem lw_ret {p : Program} {l : Launch} {e : Env} {s : State} {m : MethodId} {below : List Frame} {meth : Method} {c : Code} {b : Nat} (hx : p.tables.exec = Jvm.exec) (hb : c.code = code) (hr : meth.sig.returnType = ret) (hlocks : meth.locks = false) {pc : Nat} {H : Heap} {ls : Array Slot} (hdg : decode code pc = .ok (.ireturn, 1)) : W p l e room_1 s m #[Value.ref b] below meth c H [] 600000 7302250 (lw_Z below #[Value.ref b] s) (F0 m pc ls [.int 1]) := by
  intro T hT X
  obtain ⟨fs, hret, hrun, hended, hW, hframe⟩ := X.leave (v := some (.int 1)) (hlocks := hlocks) (fun h => by rw [hr] at h; cases h)
  have hmeth' : T.vm.method? m = some meth := X.method'
  refine ⟨T.setFrames fs, ?_, .returned (some (.int 1)), hrun, hended, rfl, ⟨_, rfl⟩, hW, hframe⟩
  jvm_step X.here [X.here.top, hx, hb, hdg, hmeth', hr, ret, narrow_b1]
  (try refine ⟨rfl, ?_⟩); (try refine ⟨rfl, ?_⟩)
  first | (intro acts; rw [hret _ acts rfl rfl rfl]) | rw [hret _ _ rfl rfl rfl]
  exact Steps.refl _
/-- what holds at the law's entry: the machine, the code, the tables' words (any of lw_tbl by 'hts w (by decide +kernel)'), the script of L ints xs at the cell b, what the Statement gives of the start (any of its parts by flat_of_before) -/
def lw_At (p : Program) (s : State) (m : MethodId) (meth : Method) (c : Code) (b L : Nat) (xs : Nat → Int32) : Prop :=
  p.tables.exec = Jvm.exec ∧ c.code = code ∧ meth.sig.returnType = ret ∧ c.maxLocals = 4 ∧ s.vm.findClass R_law = some m.cls ∧ (∀ w ∈ lw_tbl, w.before #[Value.ref b] s = true) ∧ va_X b L xs s s.heap ∧ b < s.heap.size ∧ meth.locks = false ∧ (Jvm.Cond.and given_1 narrow_1).before #[Value.ref b] s = true
theorem kn_of {s : State} {args : Array Value} {C : String} {T : u_T} {N : Nat} (htw : ∀ w ∈ tw, w.before args s = true) (hu : ∀ w ∈ u_ws C T N, w ∈ tw) (hn : Cond.instantiable C N ∈ tw) {o : Option vw_C} (ho : o = some (C, T, N)) : ∃ r : ClassId × (Nat → Nat), ∀ q : vw_C, o = some q → u_Kn s q.1 q.2.1 q.2.2 r.1 r.2 := by
  obtain ⟨cC, iS, h⟩ := u_known (C := C) (T := T) (N := N) (n := N) htw hu (htw _ hn)
  refine ⟨(cC, iS), fun q hq => ?_⟩
  rw [ho] at hq
  have e9 : (C, T, N) = q := Option.some.inj hq
  rw [← e9]
  exact h
theorem kn_all {s : State} {args : Array Value} (htw : ∀ w ∈ tw, w.before args s = true) : ∃ D : va_G, ∀ (c : Nat) (q : vw_C), vwCl[c]? = some q → u_Kn s q.1 q.2.1 q.2.2 (D.1 c) (D.2 c) := by
  have h0 : ∀ c : Nat, ∃ r : ClassId × (Nat → Nat), ∀ q : vw_C, vwCl[c]? = some q → u_Kn s q.1 q.2.1 q.2.2 r.1 r.2 := by
    intro c
    match c with
    | 0 => exact kn_of htw uX0 nX0 rfl
    | 1 => exact kn_of htw uX1 nX1 rfl
    | 2 => exact kn_of htw uX2 nX2 rfl
    | 3 => exact kn_of htw uX3 nX3 rfl
    | 4 => exact kn_of htw uX4 nX4 rfl
    | 5 => exact kn_of htw uX5 nX5 rfl
    | 6 => exact kn_of htw uX6 nX6 rfl
    | 7 => exact kn_of htw uX7 nX7 rfl
    | 8 => exact kn_of htw uX8 nX8 rfl
    | 9 => exact kn_of htw uX9 nX9 rfl
    | c9 + 10 => exact ⟨(0, fun _ => 0), fun q hq => absurd (List.getElem?_eq_some_iff.mp hq).1 (by show ¬ c9 + 10 < 10; omega)⟩
  obtain ⟨f9, hf⟩ := Classical.axiomOfChoice h0
  exact ⟨(fun c => (f9 c).1, fun c => (f9 c).2), hf⟩
theorem ar_int {s : State} {args : Array Value} {ty : FieldType} (hn : ∀ C, ty ≠ .object C) (h : (Cond.arrayClass ty).before args s = true) : ∃ cA : ClassId, ArrOfT s cA ty ∧ va_RA s cA ty := by
  obtain ⟨cA, kA, comp, h1, h2, h3⟩ := Cond.arrayClass_spec h
  refine ⟨cA, fun n z => ⟨(fun k h => by cases h), kA, h2, comp, h3⟩, ?_⟩
  cases ty with
  | object C => exact absurd rfl (hn C)
  | _ => exact h1
theorem ar_obj {s : State} {args : Array Value} {C : String} (h : (Cond.arrayOver (.object C)).before args s = true) : ∃ cA : ClassId, ArrOfT s cA (.object C) ∧ va_RA s cA (.object C) := by
  obtain ⟨comp, cA, kA, h1, h2, h3, h4, h5⟩ := Cond.arrayOver_spec h
  exact ⟨cA, fun n z => ⟨(fun k h => by cases h), kA, h3, comp, h4⟩, kA, comp, h3, h4, h1, h5⟩
/-! the four words of Tape, at the start -/
def x_tm (i : Nat) : Term := .string "WorkEnds$Tape" ([57, 83, 89, 91].getD i 0)
def x_vl (i : Nat) : Term := .field (x_tm i) "java/lang/String" "value" "[B"
theorem x_g0 : ∀ i, i < 4 → Cond.exactly (x_tm i) "java/lang/String" ∈ flatC (Jvm.Cond.and given_1 narrow_1) := by decide +kernel
theorem x_g1 : ∀ i, i < 4 → Cond.eq (.field (x_tm i) "java/lang/String" "coder" "B") (.int 0) ∈ flatC (Jvm.Cond.and given_1 narrow_1) := by decide +kernel
theorem x_g2 : ∀ i, i < 4 → Cond.arrayOf (x_vl i) .byte ∈ flatC (Jvm.Cond.and given_1 narrow_1) := by decide +kernel
theorem x_g3 : ∀ i, i < 4 → Cond.eq (.length (x_vl i)) (.int (Int32.ofNat (x_ln.getD i 0))) ∈ flatC (Jvm.Cond.and given_1 narrow_1) := by decide +kernel
theorem x_g4 : ∀ i, i < 4 → ∀ j, j < x_ln.getD i 0 → Cond.eq (.elem (x_vl i) (.int (Int32.ofNat j))) (.int ((x_by.getD i []).getD j 0)) ∈ flatC (Jvm.Cond.and given_1 narrow_1) := by decide +kernel
theorem x_g5 : ∀ i, i < 4 → ∀ j, j < 4 → i ≠ j → Cond.not (Cond.eq (x_tm i) (x_tm j)) ∈ flatC (Jvm.Cond.and given_1 narrow_1) ∨ Cond.not (Cond.eq (x_tm j) (x_tm i)) ∈ flatC (Jvm.Cond.and given_1 narrow_1) := by decide +kernel
theorem x_g6 : Cond.eq (.static "java/lang/String" "COMPACT_STRINGS" "Z") (.int 1) ∈ flatC (Jvm.Cond.and given_1 narrow_1) := by decide +kernel
theorem x_g7 : Cond.isRef (.static "jdk/internal/util/Preconditions" "SIOOBE_FORMATTER" "Ljava/util/function/BiFunction;") ∈ flatC (Jvm.Cond.and given_1 narrow_1) := by decide +kernel
theorem x_at0 {s : State} {args : Array Value} (hts : ∀ w ∈ tables_1, w.before args s = true) (hs : ∀ c ∈ flatC (Jvm.Cond.and given_1 narrow_1), c.before args s = true) : ∃ (adK adV : Nat → Nat) (fo : Value), x_S s.heap.size adK adV fo s s.heap ∧ (fo = .null ∨ ∃ a, fo = .ref a) := by
  have hA : ∀ a : Nat, a < s.heap.size → ¬ (fun q => s.heap.size ≤ q) a := fun a ha h9 => absurd h9 (Nat.not_le.mpr ha)
  have w3 : ∀ {w : Cond} (k9 : Nat), tables_1_3[k9]? = some w → w.before args s = true := fun k9 hk => hts _ (tw_s3 _ (List.mem_of_getElem? hk))
  have w1 : ∀ {w : Cond} (k9 : Nat), tables_1_1[k9]? = some w → w.before args s = true := fun k9 hk => hts _ (tw_s1 _ (List.mem_of_getElem? hk))
  obtain ⟨adK, adV, hK, hE⟩ := vk_Sof (args := args) (s := s) (N := 4) (tm := x_tm) (len := x_ln) (byt := x_by) (A := fun q => s.heap.size ≤ q) (by decide +kernel) (fun i hi => hs _ (x_g0 i hi)) (fun i hi => hs _ (x_g1 i hi)) (fun i hi => hs _ (x_g2 i hi)) (fun i hi => hs _ (x_g3 i hi)) (fun i hi j hj => hs _ (x_g4 i hi j hj)) (fun i j hi hj hij => (x_g5 i hi j hj hij).imp (hs _) (hs _)) hA
  have r0 : vk_R RX5 57 "nodes" (adK 0) s := vk_R.of (w3 10 rfl) (hE 0 (by omega))
  have r1 : vk_R RX5 83 "wire" (adK 1) s := vk_R.of (w3 79 rfl) (hE 1 (by omega))
  have r2 : vk_R RX5 89 "both" (adK 2) s := vk_R.of (w3 95 rfl) (hE 2 (by omega))
  have r3 : vk_R RX5 91 "plan" (adK 3) s := vk_R.of (w3 96 rfl) (hE 3 (by omega))
  have z1 : va_Z "java/lang/String" "COMPACT_STRINGS" "Z" (.int 1) (fun q => s.heap.size ≤ q) s s.heap := va_Zof (w3 24 rfl) (w1 13 rfl) (va_eqi (hs _ x_g6)) hA
  have z2 : va_Zq "jdk/internal/util/Preconditions" "SIOOBE_FORMATTER" "Ljava/util/function/BiFunction;" (fun q => s.heap.size ≤ q) s s.heap := va_Zqof (w3 40 rfl) (w1 15 rfl) (hs _ x_g7) hA
  rcases z2 with z2 | ⟨t9, z2⟩
  · exact ⟨adK, adV, .null, ⟨hK, ⟨r0, r1, r2, r3⟩, z1, z2⟩, Or.inl rfl⟩
  · exact ⟨adK, adV, .ref t9, ⟨hK, ⟨r0, r1, r2, r3⟩, z1, z2⟩, Or.inr ⟨t9, rfl⟩⟩
/-- component X of the law's run: the words of Tape, and the script -/
def y_X (z b L : Nat) (xs : Nat → Int32) (adK adV : Nat → Nat) (fo : Value) : State → Heap → Prop := fun U H => x_S z adK adV fo U H ∧ va_X b L xs U H
theorem y_X_same {z b L : Nat} {xs : Nat → Int32} {adK adV : Nat → Nat} {fo : Value} (hb : b < z) : (∀ (u U : State) (H : Heap), u.vm = U.vm → y_X z b L xs adK adV fo u H → y_X z b L xs adK adV fo U H) ∧ (∀ (u U : State) (H : Heap), u.WarmedH U.vm → y_X z b L xs adK adV fo u H → y_X z b L xs adK adV fo U H) ∧ ∀ (U : State) (H H' : Heap), t_low z H H' → y_X z b L xs adK adV fo U H → y_X z b L xs adK adV fo U H' := by
  refine ⟨fun u U H hv h => ?_, fun u U H hW h => ?_, fun U H H' hl h => ?_⟩
  · obtain ⟨h1, h2⟩ := h
    exact ⟨x_S_same.1 u U H hv h1, va_X.moved (by rw [← hv]; exact Vm.Alike.refl u.vm) h2⟩
  · obtain ⟨h1, h2⟩ := h
    exact ⟨x_S_same.2.1 u U H hW h1, va_X.moved hW.alike h2⟩
  · obtain ⟨h1, h2⟩ := h
    exact ⟨x_S_same.2.2 U H H' hl h1, va_X.kept h2 (hl b hb)⟩
/-- from the entry, for every script of at most 3072 ints, the law comes to its end with true -/
theorem whole_start {p : Program} {e : Env} {s : State} {m : MethodId} {below : List Frame} {meth : Method} {c : Code} (l : Launch) (hflags : l.flags = flags0) {b L : Nat} {xs : Nat → Int32} (hL : L ≤ 3072) (C0 : lw_At p s m meth c b L xs) : W p l e room_1 s m #[Value.ref b] below meth c s.heap [] 0 0 (lw_Z below #[Value.ref b] s) (entryFrame m ([Value.ref b] : List Value).toArray 4) := by
  obtain ⟨hx, hb, hr, hml, hown, hts, hX, hbl, hlocks, hgv⟩ := id C0
  have hta : ∀ w ∈ tables_1, w.before #[Value.ref b] s = true := fun w h => hts w (List.mem_append_right _ h)
  have htw : ∀ w ∈ tw, w.before #[Value.ref b] s = true := fun w h => hts w (List.mem_filter.mp h).1
  obtain ⟨D, hD⟩ := kn_all htw
  obtain ⟨cI, hI1, hI2⟩ := ar_int (ty := .int) (fun C h9 => by cases h9) (htw _ w_arrI)
  obtain ⟨cB, hB1, hB2⟩ := ar_int (ty := .byte) (fun C h9 => by cases h9) (htw _ w_arrB)
  have o3 : (Cond.arrayOver (.object RX3)).before #[Value.ref b] s = true := hta _ (tw_s1 _ (List.mem_of_getElem? (i := 72) rfl))
  have o7 : (Cond.arrayOver (.object RX7)).before #[Value.ref b] s = true := hta _ (tw_s2 _ (List.mem_of_getElem? (i := 166) rfl))
  obtain ⟨cN, hN1, hN2⟩ := ar_obj o3
  obtain ⟨cW, hW1, hW2⟩ := ar_obj o7
  obtain ⟨adK, adV, fo, hS, hfo⟩ := x_at0 hta (flat_of_before _ hgv)
  have hgx : ∃ g : t_G, g = (l, s.heap.size, D, (cI, cB, cN, cW), y_X s.heap.size b L xs adK adV fo) := ⟨_, rfl⟩
  obtain ⟨g, hg⟩ := hgx
  have hXC : t_XC g := by
    rw [hg]
    exact y_X_same hbl
  have hgX : g.2.2.2.2 = y_X s.heap.size b L xs adK adV fo := by rw [hg]
  have hgz : t_z g = s.heap.size := by rw [hg]
  have hg1 : g.1 = l := by rw [hg]
  have hxK : x_K g adK adV fo := ⟨⟨hXC, fun U H h => by
    rw [hgX] at h
    rw [hgz]
    exact h.1⟩, hfo⟩
  have hyK : y_K g b L xs := fun U H h => by
    rw [hgX] at h
    exact h.2
  have hKv : va_K (t_D g) vwCl (t_ty g) s := by
    rw [hg]
    refine ⟨hD, fun k q hq => ?_⟩
    match k, hq with
    | 0, hq =>
      have e9 : (cI, FieldType.int) = q := Option.some.inj hq
      rw [← e9]
      exact ⟨hI1, hI2⟩
    | 1, hq =>
      have e9 : (cB, FieldType.byte) = q := Option.some.inj hq
      rw [← e9]
      exact ⟨hB1, hB2⟩
    | 2, hq =>
      have e9 : (cN, FieldType.object RX3) = q := Option.some.inj hq
      rw [← e9]
      exact ⟨hN1, hN2⟩
    | 3, hq =>
      have e9 : (cW, FieldType.object RX7) = q := Option.some.inj hq
      rw [← e9]
      exact ⟨hW1, hW2⟩
    | k9 + 4, hq => exact absurd (List.getElem?_eq_some_iff.mp hq).1 (by show ¬ k9 + 4 < 4; omega)
  have hK : t_K g s s.heap := ⟨hKv, fun a i y h hm => va_Nw.of rfl (hta _ hm), va_AO.of o3, va_AO.of o7, hXC, by
    rw [hgX]
    exact ⟨hS, hX⟩⟩
  obtain ⟨v, n', u', E', ⟨hv, hn, hu⟩, -, -, hT⟩ := L_law hxK hyK hL (fun _ => .inr (0, []))
  have hl := lv_entry ([.ref b]) (n := 4) (Nat.le_of_ble_eq_true rfl)
  rw [lg_entry_eq]
  generalize (lg_sl ([.ref b]) ++ List.replicate (4 - (lg_sl ([.ref b])).length) Slot.unset).toArray = ls at hl ⊢
  have hl : lv_has ls 4 [(0, .ref b)] := hl
  have hLs : t_L ls 4 [some (.ref b), none, none, none] := by
    refine ⟨hl.1, hl.2.1, fun i w hi => ?_⟩
    match i, hi with
    | 0, hi =>
      have e9 : Value.ref b = w := Option.some.inj (Option.some.inj hi)
      rw [← e9]
      exact hl.2.2 (0, .ref b) List.mem_cons_self
    | 1, hi =>
      have e9 : (none : Option Value) = some w := Option.some.inj hi
      cases e9
    | 2, hi =>
      have e9 : (none : Option Value) = some w := Option.some.inj hi
      cases e9
    | 3, hi =>
      have e9 : (none : Option Value) = some w := Option.some.inj hi
      cases e9
    | k9 + 4, hi => exact absurd (List.getElem?_eq_some_iff.mp hi).1 (by show ¬ k9 + 4 < 4; omega)
  have hC : t_C g qL_law 12 p room_1 s m #[Value.ref b] meth c := ⟨hx, hb, hml, hr, hlocks, hown, htw, fun h9 => absurd h9 (by decide +kernel), Nat.le_of_ble_eq_true rfl, Nat.le_of_ble_eq_true rfl, hK⟩
  have hR : t_R g 0 (fun _ => .inr (0, [])) s.heap := ⟨by rw [hgz, Nat.add_zero], fun a h1 h2 => by omega⟩
  have hk : ∀ (pc' : Nat) (ls' : Array Slot) (H' : Heap) (locs' : List Loc), t_R g n' E' H' → t_low (t_z g) s.heap H' → (∀ x ∈ locs', t_z g ≤ x.base) → t_end qL_law pc' v → W p g.1 e room_1 s m #[Value.ref b] below meth c H' locs' (0 + (n' - 0)) (0 + (u' - 0)) (lw_Z below #[Value.ref b] s) (F0 m pc' ls' v.toList) := by
    intro pc' ls' H' locs' hR' hlow' hloc' hend
    rw [hg1]
    rw [hgz] at hloc'
    refine va_forget hloc' ?_
    refine W.widen (k := 600000) (n := 7302250) (by omega) (by omega) ?_
    rw [hv] at hend ⊢
    rcases hend with ⟨h9, -⟩ | ⟨x9, ty9, h9, -, -, hdg⟩ | ⟨w9, ty9, h9, -, -, hw9, -⟩
    · cases h9
    · exact lw_ret hx hb hr hlocks hdg
    · have e9 : Value.int 1 = w9 := Option.some.inj h9
      rw [← e9] at hw9
      rcases hw9 with h9 | ⟨a9, h9⟩ <;> cases h9
  have hW := hT p e room_1 s m #[Value.ref b] below meth c s.heap [] ls 0 0 (lw_Z below #[Value.ref b] s) hC hR (fun _ _ => rfl) (fun x h => absurd h List.not_mem_nil) hLs (by show 0 + (n' - 0) ≤ 600000; omega) (by show 0 + (u' - 0) ≤ 7302250; omega) hk
  rw [hg1] at hW
  exact hW
