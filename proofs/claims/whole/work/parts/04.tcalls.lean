/-- contract of a method at given arguments and memory: it comes to an end with an outcome that Q holds of -/
def tC (g : t_G) (q : t_MI) (d : Nat) (as : List Value) (n u : Nat) (E : t_M) (Q : t_Q) : Prop :=
  ∃ (v : Option Value) (n' u' : Nat) (E' : t_M), Q v n' u' E' ∧ n ≤ n' ∧ u ≤ u' ∧
    Met g.1 q.1 (t_mw q) { frames := d, cells := n' - n, slots := u' - u, locals := 39 * d } (va_Pc as (fun U => t_R g n E U.heap ∧ t_K g U U.heap)) (fun _ st oc t => oc = .returned v ∧ t_R g n' E' t.heap ∧ t_low (t_z g) st.heap t.heap) (n' - n) (u' - u) (fun x => t_z g ≤ x)
def t_lo : List Value → List (Option Value)
  | [] => []
  | v :: r => if v.category = 1 then some v :: t_lo r else some v :: none :: t_lo r
theorem t_lo_args (k : Nat) : ∀ (as : List Value) (o i : Nat) (v : Value), (t_lo as ++ List.replicate k none)[i]? = some (some v) → (o + i, v) ∈ lv_args o as
  | [], o, i, v, h => by
    simp only [t_lo, List.nil_append] at h
    have := List.mem_of_getElem? h
    have := List.eq_of_mem_replicate this
    cases this
  | w :: r, o, i, v, h => by
    by_cases hc : w.category = 1
    · simp only [t_lo, hc, if_true, List.cons_append] at h
      cases i with
      | zero =>
        simp at h
        subst h
        exact List.mem_cons_self
      | succ i =>
        have h2 : (t_lo r ++ List.replicate k none)[i]? = some (some v) := by simpa using h
        have := t_lo_args k r (o + 1) i v h2
        show _ ∈ (o, w) :: lv_args (if w.category = 2 then o + 2 else o + 1) r
        rw [if_neg (by rw [hc]; decide)]
        refine List.mem_cons_of_mem _ ?_
        rw [show o + (i + 1) = o + 1 + i by omega]
        exact this
    · have hc2 : w.category = 2 := (lv_cat w).resolve_left hc
      simp only [t_lo, hc, if_false, List.cons_append] at h
      cases i with
      | zero =>
        simp at h
        subst h
        exact List.mem_cons_self
      | succ i =>
        cases i with
        | zero => simp at h
        | succ i =>
          have h2 : (t_lo r ++ List.replicate k none)[i]? = some (some v) := by simpa using h
          have := t_lo_args k r (o + 2) i v h2
          show _ ∈ (o, w) :: lv_args (if w.category = 2 then o + 2 else o + 1) r
          rw [if_pos hc2]
          refine List.mem_cons_of_mem _ ?_
          rw [show o + (i + 1 + 1) = o + 2 + i by omega]
          exact this
theorem tC_of {g : t_G} {q : t_MI} {d : Nat} {as : List Value} {lo : List (Option Value)} {n u : Nat} {E : t_M} {Q : t_Q} (k : Nat) (hy : plainName q.1.cls = true) (hl : (lg_sl as).length ≤ q.2.2.1) (hlo : lo = t_lo as ++ List.replicate k none) (h : tT g q d 0 lo [] n u E Q) : tC g q d as n u E Q := by
  obtain ⟨v, n', u', E', hQ, h1, h2, h⟩ := h
  refine ⟨v, n', u', E', hQ, h1, h2, ?_⟩
  refine Met.ofW (cc := q.2.1) (maxL := q.2.2.1) (ret := q.2.2.2) hy rfl ?_
  intro p e s m args below meth c s₁ B hml hv
  obtain ⟨rfl, hR, hK⟩ := hv
  have hl0 := lv_entry as (n := q.2.2.1) hl
  rw [lg_entry_eq]
  refine h p e _ s m _ below meth c s.heap [] _ 0 0 _ ⟨B.exec, B.bytes, hml, B.returns, B.notSynchronized, findClass_of_methodNamed B.named, fun w hw => atoms_spec (ws := t_mw q) B.pre w (List.mem_cons_of_mem _ hw), fun hi => ((name_of_methodNamed B.named B.method).1).trans hi, Nat.le_refl _, Nat.le_refl _, hK⟩ hR (fun _ _ => rfl) (fun _ h => by cases h) ⟨hl0.1, hl0.2.1, fun i v hv => ?_⟩ ?_ ?_ ?_
  · have := t_lo_args k as 0 i v (hlo ▸ hv)
    rw [Nat.zero_add] at this
    exact hl0.2.2 (i, v) this
  · rw [Nat.zero_add]; exact Nat.le_refl _
  · rw [Nat.zero_add]; exact Nat.le_refl _
  · intro pc' ls' H' locs' hR' hlow' hloc' hend
    rw [Nat.zero_add, Nat.zero_add]
    have hlocks : meth.locks = false := B.notSynchronized
    rcases hend with ⟨rfl, hr, hd⟩ | ⟨x, ty, rfl, hr, hn, hd⟩ | ⟨w, ty, rfl, hr, hrt, hw, hd⟩
    · exact W.vret B.exec B.bytes (B.returns.trans hr) (fun t ht hW => ⟨rfl, by rw [ht]; exact hR', by rw [ht]; exact hlow'⟩) hloc' hd hlocks
    · exact W.zret B.exec B.bytes (B.returns.trans hr) hn (fun t ht hW => ⟨rfl, by rw [ht]; exact hR', by rw [ht]; exact hlow'⟩) hloc' hd hlocks
    · exact W.aret B.exec B.bytes (B.returns.trans hr) hrt hw (fun t ht hW => ⟨rfl, by rw [ht]; exact hR', by rw [ht]; exact hlow'⟩) hloc' hd hlocks
theorem tC.mono {g : t_G} {q : t_MI} {d : Nat} {as : List Value} {n u : Nat} {E : t_M} {Q Q' : t_Q} (h : tC g q d as n u E Q) (hQ : ∀ v n' u' E', Q v n' u' E' → Q' v n' u' E') : tC g q d as n u E Q' := by
  obtain ⟨v, n', u', E', h1, h2⟩ := h
  exact ⟨v, n', u', E', hQ _ _ _ _ h1, h2⟩
theorem tT.mono {g : t_G} {q : t_MI} {d pc : Nat} {lo : List (Option Value)} {st : List Value} {n u : Nat} {E : t_M} {Q Q' : t_Q} (h : tT g q d pc lo st n u E Q) (hQ : ∀ v n' u' E', Q v n' u' E' → Q' v n' u' E') : tT g q d pc lo st n u E Q' := by
  obtain ⟨v, n', u', E', h1, h2⟩ := h
  exact ⟨v, n', u', E', hQ _ _ _ _ h1, h2⟩
/-- the callee's own facts -/
def t_Mq (q : t_MI) (k : Nat) : Prop := Cond.code q.1 q.2.1 q.2.2.1 q.2.2.2 ∈ tw ∧ Cond.initialized q.1.cls ∈ tw ∧ (q.1.cls ≠ "java/lang/invoke/MethodHandle" ∧ q.1.cls ≠ "java/lang/invoke/VarHandle" ∧ (parseMethodDescriptor q.1.desc).map (fun d => d.parameters.length) = some k) ∧ q.2.2.1 ≤ 20
def t_Mv (q : t_MI) (k : Nat) : Prop := t_Mq q k ∧ Cond.instanceMethod q.1 ∈ tw ∧ Cond.selects q.1.cls q.1 q.1 ∈ tw
def t_Ms (q : t_MI) (k : Nat) : Prop := t_Mq q k ∧ Cond.static q.1 ∈ tw
def t_Mi (q : t_MI) (k : Nat) : Prop := t_Mq q k ∧ Cond.instanceMethod q.1 ∈ tw ∧ q.1.name = "<init>" ∧ q.2.2.2 = none
theorem t_blind (g : t_G) (as : List Value) (n : Nat) (E : t_M) : FrameBlind (va_Pc as (fun U => t_R g n E U.heap ∧ t_K g U U.heap)) := fun a U gg mk h => ⟨h.1, h.2.1, t_K.same (u := U) (U := U.calling gg mk a) rfl h.2.2⟩
section TC
variable {g : t_G} {q : t_MI} {d pc : Nat} {lo : List (Option Value)} {st stk : List Value} {n u : Nat} {E : t_M} {Q : t_Q}
/-- behind a call -/
theorem t_ran {p : Program} {e : Env} {R : Room} {s : State} {m : MethodId} {args : Array Value} {below : List Frame} {meth : Method} {c : Code} {H : Heap} {locs : List Loc} {ls : Array Slot} {cells slots mc ms : Nat} {Qs : State → Prop} {v : Option Value} {n1 : Nat} {E1 : t_M}
    (run : va_Run p g.1 e R s m args below meth c H locs cells slots mc ms (F0 m pc ls stk) st (fun st' oc t => oc = .returned v ∧ t_R g n1 E1 t.heap ∧ t_low (t_z g) st'.heap t.heap) (fun x => t_z g ≤ x)) (hlow : t_low (t_z g) s.heap H) (hloc : ∀ x ∈ locs, t_z g ≤ x.base)
    (kk : ∀ (H' : Heap) (locs' : List Loc), t_R g n1 E1 H' → t_low (t_z g) s.heap H' → (∀ x ∈ locs', t_z g ≤ x.base) → W p g.1 e R s m args below meth c H' locs' (cells + mc) (slots + ms) Qs (F0 m (pc + 3) ls (v.toList ++ st))) : W p g.1 e R s m args below meth c H locs cells slots Qs (F0 m pc ls stk) := by
  intro T hT X
  obtain ⟨v', st₀, t, T', L, h0, X', hLf, e1, e2, ⟨hv, hR', hlow'⟩, st'⟩ := run T hT X
  cases hv
  rw [h0] at hlow'
  obtain ⟨t2, a1, b1⟩ := kk T'.heap (locs ++ L) (by rw [e1]; exact hR') (by rw [e1]; exact hlow.tr hlow') (fun x hx => by
    rcases List.mem_append.mp hx with hx | hx
    · exact hloc x hx
    · exact hLf x hx) T' rfl X'
  exact ⟨t2, st' t2 a1, b1⟩
theorem T_callV {idx k b ci d' : Nat} {q' : t_MI} {As : List Value} {fs : List Value} {r : vw_C} {Q' : t_Q} (hd : decode q.2.1 pc = .ok (.invokevirtual idx, 3)) (hm : t_Mv q' k) (hl : Cond.methodLink q.1.cls idx q'.1 ∈ tw) (hk : As.length = k) (hb : t_z g ≤ b ∧ b < t_z g + n) (hE : E b = .inr (ci, fs)) (hc : vwCl[ci]? = some r) (hcl : r.1 = q'.1.cls) (hdd : d' + 1 ≤ d) (hst : (st.map fun v => v.category).sum ≤ 8) (hs : stk = As.reverse ++ .ref b :: st) (hC : tC g q' d' (.ref b :: As) n u E Q')
    (h : ∀ v n' u' E', Q' v n' u' E' → tT g q d (pc + 3) lo (v.toList ++ st) n' u' E' Q) : tT g q d pc lo stk n u E Q := by
  obtain ⟨v, n1, u1, E1, hQ', h1, h2, hM⟩ := hC
  refine T_gen h1 h2 (fun p e R s m args below meth c H locs ls cells slots Qs cx hR hlow hloc hL hcs hsl kk => ?_) (h v n1 u1 E1 hQ')
  have hts := cx.2.2.2.2.2.2.1
  have hK := cx.2.2.2.2.2.2.2.2.2.2
  have hfr := cx.2.2.2.2.2.2.2.2.1
  have hlc := cx.2.2.2.2.2.2.2.2.2.1
  obtain ⟨⟨m1, m2, m3, m4⟩, m5, m6⟩ := hm
  obtain ⟨r', hr', cell, g1, g2, g3, -⟩ := hR.at hb hE
  have hG : GoodIn tw (wsV q.1.cls idx q'.1.cls q'.1 (t_mw q')) := tw_in (by
    intro w hw
    simp only [wsV, t_mw, List.mem_append, List.mem_cons, List.not_mem_nil, or_false] at hw
    rcases hw with (rfl | rfl | rfl | rfl) | rfl | hw <;> assumption)
  refine t_ran (va_runV (As := As) (rest := st) ⟨cx.1, cx.2.1, cx.2.2.1, cx.2.2.2.2.2.1, hts⟩ hM (cwV k hts hG rfl rfl rfl ⟨rfl, m3⟩ ⟨by show d' + 1 ≤ _; omega, by show 8 + (q'.2.2.1 + 11) + 39 * d' ≤ _; omega⟩) ⟨t_blind g _ n E, ⟨cell, g1, by rw [g3]; rfl, by rw [g2, ← hcl]; exact (hK.1.1 ci r hc).2.1⟩, fun U hU hW => ⟨rfl, by rw [hU]; exact hR, by rw [hU]; exact (hK.kept hlow).warm hW⟩⟩ rfl hk hL.1 hs (lv_room hst) hd ⟨hcs, hsl⟩) hlow hloc (fun H' locs' a1 a2 a3 => kk H' locs' ls a1 a2 a3 hL)
theorem T_callS {idx k d' : Nat} {q' : t_MI} {As : List Value} {Q' : t_Q} (hd : decode q.2.1 pc = .ok (.invokestatic idx, 3)) (hm : t_Ms q' k) (hl : Cond.methodLink q.1.cls idx q'.1 ∈ tw) (hk : As.length = k) (hdd : d' + 1 ≤ d) (hst : (st.map fun v => v.category).sum ≤ 8) (hs : stk = As.reverse ++ st) (hC : tC g q' d' As n u E Q')
    (h : ∀ v n' u' E', Q' v n' u' E' → tT g q d (pc + 3) lo (v.toList ++ st) n' u' E' Q) : tT g q d pc lo stk n u E Q := by
  obtain ⟨v, n1, u1, E1, hQ', h1, h2, hM⟩ := hC
  refine T_gen h1 h2 (fun p e R s m args below meth c H locs ls cells slots Qs cx hR hlow hloc hL hcs hsl kk => ?_) (h v n1 u1 E1 hQ')
  have hts := cx.2.2.2.2.2.2.1
  have hK := cx.2.2.2.2.2.2.2.2.2.2
  have hfr := cx.2.2.2.2.2.2.2.2.1
  have hlc := cx.2.2.2.2.2.2.2.2.2.1
  obtain ⟨⟨m1, m2, m3, m4⟩, m5⟩ := hm
  have hG : GoodIn tw (va_wsS q.1.cls idx q'.1 (t_mw q')) := tw_in (by
    intro w hw
    simp only [va_wsS, t_mw, List.mem_append, List.mem_cons, List.not_mem_nil, or_false] at hw
    rcases hw with (rfl | rfl | rfl) | rfl | hw <;> assumption)
  refine t_ran (va_runS (As := As) (rest := st) ⟨cx.1, cx.2.1, cx.2.2.1, cx.2.2.2.2.2.1, hts⟩ hM (va_cwS k hts hG rfl rfl rfl m3 ⟨by show d' + 1 ≤ _; omega, by show 8 + (q'.2.2.1 + 11) + 39 * d' ≤ _; omega⟩) ⟨t_blind g _ n E, fun U hU hW => ⟨rfl, by rw [hU]; exact hR, by rw [hU]; exact (hK.kept hlow).warm hW⟩⟩ rfl hk hL.1 hs (lv_room hst) hd ⟨hcs, hsl⟩) hlow hloc (fun H' locs' a1 a2 a3 => kk H' locs' ls a1 a2 a3 hL)
theorem T_callSN {idx k d' : Nat} {host : String} {q' : t_MI} {As : List Value} {Q' : t_Q} (hd : decode q.2.1 pc = .ok (.invokestatic idx, 3)) (hm : t_Ms q' k) (hl : Cond.methodLinkNest q.1.cls idx q'.1 host ∈ tables_1) (hk : As.length = k) (hdd : d' + 1 ≤ d) (hst : (st.map fun v => v.category).sum ≤ 8) (hs : stk = As.reverse ++ st) (hC : tC g q' d' As n u E Q')
    (h : ∀ v n' u' E', Q' v n' u' E' → tT g q d (pc + 3) lo (v.toList ++ st) n' u' E' Q) : tT g q d pc lo stk n u E Q := by
  obtain ⟨v, n1, u1, E1, hQ', h1, h2, hM⟩ := hC
  refine T_gen h1 h2 (fun p e R s m args below meth c H locs ls cells slots Qs cx hR hlow hloc hL hcs hsl kk => ?_) (h v n1 u1 E1 hQ')
  have hts := cx.2.2.2.2.2.2.1
  have hK := cx.2.2.2.2.2.2.2.2.2.2
  have hfr := cx.2.2.2.2.2.2.2.2.1
  have hlc := cx.2.2.2.2.2.2.2.2.2.1
  obtain ⟨⟨m1, m2, m3, m4⟩, m5⟩ := hm
  have hG : GoodIn tw (t_mw q') := tw_in (by
    intro w hw
    rcases List.mem_cons.mp hw with rfl | hw <;> assumption)
  refine t_ran (va_runSN (As := As) (rest := st) ⟨cx.1, cx.2.1, cx.2.2.1, cx.2.2.2.2.2.1, hts⟩ hM ⟨va_cnB k hts hG rfl rfl rfl (hK.2.1 _ _ _ _ hl) (hts _ m2) m3 ⟨by show d' + 1 ≤ _; omega, by show 8 + (q'.2.2.1 + 11) + 39 * d' ≤ _; omega⟩, hts _ m5, trivial⟩ ⟨t_blind g _ n E, fun U hU hW => ⟨rfl, by rw [hU]; exact hR, by rw [hU]; exact (hK.kept hlow).warm hW⟩⟩ rfl hk hL.1 hs (lv_room hst) hd ⟨hcs, hsl⟩) hlow hloc (fun H' locs' a1 a2 a3 => kk H' locs' ls a1 a2 a3 hL)
theorem T_callI {idx k b d' : Nat} {q' : t_MI} {As : List Value} {Q' : t_Q} (hd : decode q.2.1 pc = .ok (.invokespecial idx, 3)) (hm : t_Mi q' k) (hl : Cond.methodLink q.1.cls idx q'.1 ∈ tw) (hk : As.length = k) (hdd : d' + 1 ≤ d) (hst : (st.map fun v => v.category).sum ≤ 8) (hs : stk = As.reverse ++ .ref b :: st) (hC : tC g q' d' (.ref b :: As) n u E Q')
    (h : ∀ v n' u' E', Q' v n' u' E' → tT g q d (pc + 3) lo (v.toList ++ st) n' u' E' Q) : tT g q d pc lo stk n u E Q := by
  obtain ⟨v, n1, u1, E1, hQ', h1, h2, hM⟩ := hC
  refine T_gen h1 h2 (fun p e R s m args below meth c H locs ls cells slots Qs cx hR hlow hloc hL hcs hsl kk => ?_) (h v n1 u1 E1 hQ')
  have hts := cx.2.2.2.2.2.2.1
  have hK := cx.2.2.2.2.2.2.2.2.2.2
  have hfr := cx.2.2.2.2.2.2.2.2.1
  have hlc := cx.2.2.2.2.2.2.2.2.2.1
  obtain ⟨⟨m1, m2, m3, m4⟩, m5, m6, m7⟩ := hm
  have hG : GoodIn tw (t_mw q') := tw_in (by
    intro w hw
    rcases List.mem_cons.mp hw with rfl | hw <;> assumption)
  refine t_ran (va_runI (As := As) (rest := st) ⟨cx.1, cx.2.1, cx.2.2.1, cx.2.2.2.2.2.1, hts⟩ hM (cwI (bytes := q'.2.1) (maxL := q'.2.2.1) k hts hG (by show _ = _; unfold t_mw; rw [m7]) rfl rfl (hts _ m2) (hts _ hl) (hts _ m5) m6 m3 ⟨by show d' + 1 ≤ _; omega, by show 8 + (q'.2.2.1 + 11) + 39 * d' ≤ _; omega⟩) ⟨t_blind g _ n E, fun U hU hW => ⟨rfl, by rw [hU]; exact hR, by rw [hU]; exact (hK.kept hlow).warm hW⟩⟩ rfl hk hL.1 hs (lv_room hst) hd ⟨hcs, hsl⟩) hlow hloc (fun H' locs' a1 a2 a3 => kk H' locs' ls a1 a2 a3 hL)
theorem T_callIN {idx k b d' : Nat} {host : String} {q' : t_MI} {As : List Value} {Q' : t_Q} (hd : decode q.2.1 pc = .ok (.invokespecial idx, 3)) (hm : t_Mi q' k) (hl : Cond.methodLinkNest q.1.cls idx q'.1 host ∈ tables_1) (hk : As.length = k) (hdd : d' + 1 ≤ d) (hst : (st.map fun v => v.category).sum ≤ 8) (hs : stk = As.reverse ++ .ref b :: st) (hC : tC g q' d' (.ref b :: As) n u E Q')
    (h : ∀ v n' u' E', Q' v n' u' E' → tT g q d (pc + 3) lo (v.toList ++ st) n' u' E' Q) : tT g q d pc lo stk n u E Q := by
  obtain ⟨v, n1, u1, E1, hQ', h1, h2, hM⟩ := hC
  refine T_gen h1 h2 (fun p e R s m args below meth c H locs ls cells slots Qs cx hR hlow hloc hL hcs hsl kk => ?_) (h v n1 u1 E1 hQ')
  have hts := cx.2.2.2.2.2.2.1
  have hK := cx.2.2.2.2.2.2.2.2.2.2
  have hfr := cx.2.2.2.2.2.2.2.2.1
  have hlc := cx.2.2.2.2.2.2.2.2.2.1
  obtain ⟨⟨m1, m2, m3, m4⟩, m5, m6, m7⟩ := hm
  have hG : GoodIn tw (t_mw q') := tw_in (by
    intro w hw
    rcases List.mem_cons.mp hw with rfl | hw <;> assumption)
  refine t_ran (va_runIN (As := As) (rest := st) ⟨cx.1, cx.2.1, cx.2.2.1, cx.2.2.2.2.2.1, hts⟩ hM ⟨va_cnB (bytes := q'.2.1) (maxL := q'.2.2.1) k hts hG (by show _ = _; unfold t_mw; rw [m7]) rfl rfl (hK.2.1 _ _ _ _ hl) (hts _ m2) m3 ⟨by show d' + 1 ≤ _; omega, by show 8 + (q'.2.2.1 + 11) + 39 * d' ≤ _; omega⟩, m6, hts _ m5⟩ ⟨t_blind g _ n E, fun U hU hW => ⟨rfl, by rw [hU]; exact hR, by rw [hU]; exact (hK.kept hlow).warm hW⟩⟩ rfl hk hL.1 hs (lv_room hst) hd ⟨hcs, hsl⟩) hlow hloc (fun H' locs' a1 a2 a3 => kk H' locs' ls a1 a2 a3 hL)
theorem T_objInit {idx a : Nat} (hd : decode q.2.1 pc = .ok (.invokespecial idx, 3)) (hl : Cond.methodLink q.1.cls idx objectInit ∈ tw) (hi : Cond.instanceMethod objectInit ∈ tw) (hc : Cond.code objectInit ⟨#[0xb1]⟩ 1 none ∈ tw) (hdd : 1 ≤ d) (hst : (st.map fun v => v.category).sum ≤ 8) (h : tT g q d (pc + 3) lo st n u E Q) : tT g q d pc lo (.ref a :: st) n u E Q :=
  T_pure (fun _ _ _ _ _ _ _ _ _ _ _ _ _ _ _ cx _ _ hL k => W.objInit cx.1 cx.2.1 cx.2.2.2.2.2.1 (cx.2.2.2.2.2.2.1 _ hl) (cx.2.2.2.2.2.2.1 _ hi) (cx.2.2.2.2.2.2.1 _ hc) rfl (hL.1.trans cx.2.2.1.symm) rfl hd (Nat.le_trans hdd cx.2.2.2.2.2.2.2.2.1) (by have := cx.2.2.2.2.2.2.2.2.2.1; have := lv_room (m := ‹MethodId›) (pc := pc) (ls := ‹Array Slot›) (rest := Value.ref a :: st) hst; omega) k) h
theorem T_ireturn {x : Int32} {ty : FieldType} (hd : decode q.2.1 pc = .ok (.ireturn, 1)) (hr : q.2.2.2 = some ty) (hn : narrow ty (.int x) = .int x) (hQ : Q (some (.int x)) n u E) : tT g q d pc lo [.int x] n u E Q :=
  ⟨some (.int x), n, u, E, hQ, Nat.le_refl n, Nat.le_refl u, fun p e R s m args below meth c H locs ls cells slots Qs cx hR hlow hloc hL hcs hsl k => by
    have := k pc ls H locs hR hlow hloc (Or.inr (Or.inl ⟨x, ty, rfl, hr, hn, hd⟩))
    rwa [Nat.sub_self, Nat.sub_self, Nat.add_zero, Nat.add_zero] at this⟩
theorem T_return (hd : decode q.2.1 pc = .ok (.return_, 1)) (hr : q.2.2.2 = none) (hQ : Q none n u E) : tT g q d pc lo [] n u E Q :=
  ⟨none, n, u, E, hQ, Nat.le_refl n, Nat.le_refl u, fun p e R s m args below meth c H locs ls cells slots Qs cx hR hlow hloc hL hcs hsl k => by
    have := k pc ls H locs hR hlow hloc (Or.inl ⟨rfl, hr, hd⟩)
    rwa [Nat.sub_self, Nat.sub_self, Nat.add_zero, Nat.add_zero] at this⟩
theorem T_areturn {a : Nat} {ty : FieldType} (hd : decode q.2.1 pc = .ok (.areturn, 1)) (hr : q.2.2.2 = some ty) (hrt : (∃ n, ty = .object n) ∨ ∃ t, ty = .array t) (hQ : Q (some (.ref a)) n u E) : tT g q d pc lo [.ref a] n u E Q :=
  ⟨some (.ref a), n, u, E, hQ, Nat.le_refl n, Nat.le_refl u, fun p e R s m args below meth c H locs ls cells slots Qs cx hR hlow hloc hL hcs hsl k => by
    have := k pc ls H locs hR hlow hloc (Or.inr (Or.inr ⟨.ref a, ty, rfl, hr, hrt, Or.inr ⟨a, rfl⟩, hd⟩))
    rwa [Nat.sub_self, Nat.sub_self, Nat.add_zero, Nat.add_zero] at this⟩
end TC
