theorem fJ0_38 : Cond.fieldLink RJ0 38 "java/lang/String" "COMPACT_STRINGS" "Z" ∈ tw := tw_k tw_s3 23 rfl rfl
theorem fJ0_1053 : Cond.fieldLink RJ0 1053 "jdk/internal/util/Preconditions" "SIOOBE_FORMATTER" "Ljava/util/function/BiFunction;" ∈ tw := tw_k tw_s3 39 rfl rfl
theorem fJ0_9 : Cond.fieldLink RJ0 9 "java/lang/String" "value" "[B" ∈ tw := tw_k tw_s7 179 rfl rfl
theorem fJ0_15 : Cond.fieldLink RJ0 15 "java/lang/String" "coder" "B" ∈ tw := tw_k tw_s7 180 rfl rfl
/-! the four words of Tape, as the machine holds them -/
def x_ln : List Nat := [5, 4, 4, 4]
def x_by : List (List Int32) := [[110, 111, 100, 101, 115], [119, 105, 114, 101], [98, 111, 116, 104], [112, 108, 97, 110]]
def x_SF : String := "jdk/internal/util/Preconditions"
def x_S (z : Nat) (adK adV : Nat → Nat) (fo : Value) (U : State) (H : Heap) : Prop :=
  vk_S 4 x_ln x_by adK adV (fun q => z ≤ q) U H ∧ (vk_R RX5 57 "nodes" (adK 0) U ∧ vk_R RX5 83 "wire" (adK 1) U ∧ vk_R RX5 89 "both" (adK 2) U ∧ vk_R RX5 91 "plan" (adK 3) U) ∧ va_Z "java/lang/String" "COMPACT_STRINGS" "Z" (.int 1) (fun q => z ≤ q) U H ∧ va_Z "jdk/internal/util/Preconditions" "SIOOBE_FORMATTER" "Ljava/util/function/BiFunction;" fo (fun q => z ≤ q) U H
def x_K (g : t_G) (adK adV : Nat → Nat) (fo : Value) : Prop := (t_XC g ∧ ∀ (U : State) (H : Heap), g.2.2.2.2 U H → x_S (t_z g) adK adV fo U H) ∧ (fo = .null ∨ ∃ a, fo = .ref a)
theorem x_S.moved {z : Nat} {adK adV : Nat → Nat} {fo : Value} {u U : State} {H : Heap} (hvm : u.vm.Alike U.vm) (hR : ∀ own k tx a, vk_R own k tx a u → vk_R own k tx a U) (h : x_S z adK adV fo u H) : x_S z adK adV fo U H :=
  ⟨h.1.moved hvm, ⟨hR _ _ _ _ h.2.1.1, hR _ _ _ _ h.2.1.2.1, hR _ _ _ _ h.2.1.2.2.1, hR _ _ _ _ h.2.1.2.2.2⟩, h.2.2.1.moved hvm, h.2.2.2.moved hvm⟩
theorem x_S.kept {z : Nat} {adK adV : Nat → Nat} {fo : Value} {U : State} {H H' : Heap} (hl : t_low z H H') (h : x_S z adK adV fo U H) : x_S z adK adV fo U H' :=
  have hq : ∀ a : Nat, a < H.size → ¬ z ≤ a → H'[a]? = H[a]? := fun a _ h9 => hl a (Nat.lt_of_not_le h9)
  ⟨h.1.kept hq, h.2.1, h.2.2.1.kept hq, h.2.2.2.kept hq⟩
theorem x_XC {g : t_G} {adK adV : Nat → Nat} {fo : Value} (h : x_K g adK adV fo) : t_XC g := h.1.1
theorem x_S_same {z : Nat} {adK adV : Nat → Nat} {fo : Value} : (∀ (u U : State) (H : Heap), u.vm = U.vm → x_S z adK adV fo u H → x_S z adK adV fo U H) ∧ (∀ (u U : State) (H : Heap), u.WarmedH U.vm → x_S z adK adV fo u H → x_S z adK adV fo U H) ∧ ∀ (U : State) (H H' : Heap), t_low z H H' → x_S z adK adV fo U H → x_S z adK adV fo U H' :=
  ⟨fun u U H hv hx => hx.moved (by rw [← hv]; exact Vm.Alike.refl u.vm) (fun _ _ _ _ hr => hr.same hv.symm), fun u U H hW hx => hx.moved hW.alike (fun _ _ _ _ hr => hr.warm hW), fun U H H' hl hx => hx.kept hl⟩
section XR
variable {g : t_G} {q : t_MI} {d pc : Nat} {lo : List (Option Value)} {st stk : List Value} {n u : Nat} {E : t_M} {Q : t_Q} {adK adV : Nat → Nat} {fo : Value}
theorem x_at {p : Program} {R : Room} {s : State} {m : MethodId} {args : Array Value} {meth : Method} {c : Code} {H : Heap} (hX : x_K g adK adV fo) (C : t_C g q d p R s m args meth c) (hlow : t_low (t_z g) s.heap H) : x_S (t_z g) adK adV fo s H := by
  have h := (C.2.2.2.2.2.2.2.2.2.2.kept hlow).2.2.2.2.2
  exact hX.1.2 _ _ h
theorem T_ldcS {idx a : Nat} {tx : String} (hX : x_K g adK adV fo) (hr : ∀ (s : State) (H : Heap), x_S (t_z g) adK adV fo s H → vk_R q.1.cls idx tx a s) (hd : decode q.2.1 pc = .ok (.ldc idx, 2)) (h : tT g q d (pc + 2) lo (.ref a :: st) n u E Q) : tT g q d pc lo st n u E Q :=
  T_pure (fun p e R s m args below meth c H locs ls cells slots Qs C hR hlow hL kk => va_ldcS C.1 C.2.1 C.2.2.2.2.2.1 (hr s H (x_at hX C hlow)) hd kk) h
theorem T_gS {b idx : Nat} {nm ds : String} {v : Value} (hX : x_K g adK adV fo) (hF : ∀ (s : State) (H : Heap), x_S (t_z g) adK adV fo s H → va_OF "java/lang/String" nm ds v b (fun q => t_z g ≤ q) s H) (hl : Cond.fieldLink q.1.cls idx "java/lang/String" nm ds ∈ tw) (hd : decode q.2.1 pc = .ok (.getfield idx, 3)) (h : tT g q d (pc + 3) lo (v :: st) n u E Q) : tT g q d pc lo (.ref b :: st) n u E Q :=
  T_pure (fun p e R s m args below meth c H locs ls cells slots Qs C hR hlow hL kk => by
    obtain ⟨cf, k, fi, f, cell, h1, h2, h3, h4, h5, h6⟩ := hF s H (x_at hX C hlow)
    exact W.getf C.1 C.2.1 C.2.2.2.2.2.1 (C.2.2.2.2.2.2.1 _ hl) h1 h2 h3 h4 (v := v) h5 rfl rfl hd kk) h
theorem T_gZ {idx : Nat} {cl nm ds : String} {v : Value} (hX : x_K g adK adV fo) (hF : ∀ (s : State) (H : Heap), x_S (t_z g) adK adV fo s H → va_Z cl nm ds v (fun q => t_z g ≤ q) s H) (hl : Cond.fieldLink q.1.cls idx cl nm ds ∈ tw) (hd : decode q.2.1 pc = .ok (.getstatic idx, 3)) (h : tT g q d (pc + 3) lo (v :: st) n u E Q) : tT g q d pc lo st n u E Q :=
  T_pure (fun p e R s m args below meth c H locs ls cells slots Qs C hR hlow hL kk => by
    obtain ⟨cf, kf, fi, f, a, cell, h1, h2, h3, h4, h5, h6, h7, h8⟩ := hF s H (x_at hX C hlow)
    exact W.gets C.1 C.2.1 C.2.2.2.2.2.1 (C.2.2.2.2.2.2.1 _ hl) h1 h2 h3 h4 h5 (fun e9 => by rw [e9] at h6; cases h6) h7 rfl hd kk) h
theorem T_lT {b N : Nat} {ty : FieldType} {f9 : Nat → Value} (hX : x_K g adK adV fo) (hF : ∀ (s : State) (H : Heap), x_S (t_z g) adK adV fo s H → va_T ty b N f9 (fun q => t_z g ≤ q) s H) (hd : decode q.2.1 pc = .ok (.arraylength, 1)) (h : tT g q d (pc + 1) lo (.int (nI N) :: st) n u E Q) : tT g q d pc lo (.ref b :: st) n u E Q :=
  T_pure (fun p e R s m args below meth c H locs ls cells slots Qs C hR hlow hL kk => by
    obtain ⟨cell, h1, h2, h3, h4, h5, h6, h7⟩ := hF s H (x_at hX C hlow)
    exact W.alen (n := nI N) C.1 C.2.1 h1 h2 h5 rfl rfl hd kk) h
theorem T_bT {b N : Nat} {f9 : Nat → Value} {i : Int32} {v : Value} (hX : x_K g adK adV fo) (hF : ∀ (s : State) (H : Heap), x_S (t_z g) adK adV fo s H → va_T .byte b N f9 (fun q => t_z g ≤ q) s H) (hin : vp_in i N) (hv : f9 i.toNatClampNeg = v) (hd : decode q.2.1 pc = .ok (.baload, 1)) (h : tT g q d (pc + 1) lo (v :: st) n u E Q) : tT g q d pc lo (.int i :: .ref b :: st) n u E Q :=
  T_pure (fun p e R s m args below meth c H locs ls cells slots Qs C hR hlow hL kk => by
    obtain ⟨cell, h1, h2, h3, h4, h5, h6, h7⟩ := hF s H (x_at hX C hlow)
    have hlt : i.toNatClampNeg < N := Nat.not_le.mp fun q => hin (Or.inr q)
    have hin' : ¬ (i < 0 ∨ cell.slots.size ≤ i.toNatClampNeg) := by
      intro q
      rcases q with q | q
      · exact hin (Or.inl q)
      · omega
    exact W.bald (v := v) C.1 C.2.1 h1 h2 h3 hin' (by rw [h6 _ hlt, hv]) rfl rfl hd kk) h
theorem T_callVS {idx k b d' : Nat} {q' : t_MI} {As : List Value} {Q' : t_Q} (hX : x_K g adK adV fo) (hO : ∀ (s : State) (H : Heap), x_S (t_z g) adK adV fo s H → va_O q'.1.cls b (fun q => t_z g ≤ q) s H) (hd : decode q.2.1 pc = .ok (.invokevirtual idx, 3)) (hm : t_Mv q' k) (hl : Cond.methodLink q.1.cls idx q'.1 ∈ tw) (hk : As.length = k) (hdd : d' + 1 ≤ d) (hst : (st.map fun v => v.category).sum ≤ 8) (hs : stk = As.reverse ++ .ref b :: st) (hC : tC g q' d' (.ref b :: As) n u E Q')
    (h : ∀ v n' u' E', Q' v n' u' E' → tT g q d (pc + 3) lo (v.toList ++ st) n' u' E' Q) : tT g q d pc lo stk n u E Q := by
  obtain ⟨v, n1, u1, E1, hQ', h1, h2, hM⟩ := hC
  refine T_gen h1 h2 (fun p e R s m args below meth c H locs ls cells slots Qs cx hR hlow hloc hL hcs hsl kk => ?_) (h v n1 u1 E1 hQ')
  have hts := cx.2.2.2.2.2.2.1
  have hK := cx.2.2.2.2.2.2.2.2.2.2
  have hfr := cx.2.2.2.2.2.2.2.2.1
  have hlc := cx.2.2.2.2.2.2.2.2.2.1
  obtain ⟨⟨m1, m2, m3, m4⟩, m5, m6⟩ := hm
  obtain ⟨cell, g1, g2, g3, -⟩ := hO s H (x_at hX cx hlow)
  have hG : GoodIn tw (wsV q.1.cls idx q'.1.cls q'.1 (t_mw q')) := tw_in (by
    intro w hw
    simp only [wsV, t_mw, List.mem_append, List.mem_cons, List.not_mem_nil, or_false] at hw
    rcases hw with (rfl | rfl | rfl | rfl) | rfl | hw <;> assumption)
  refine t_ran (va_runV (As := As) (rest := st) ⟨cx.1, cx.2.1, cx.2.2.1, cx.2.2.2.2.2.1, hts⟩ hM (cwV k hts hG rfl rfl rfl ⟨rfl, m3⟩ ⟨by show d' + 1 ≤ _; omega, by show 8 + (q'.2.2.1 + 11) + 39 * d' ≤ _; omega⟩) ⟨t_blind g _ n E, ⟨cell, g1, g2, g3⟩, fun U hU hW => ⟨rfl, by rw [hU]; exact hR, by rw [hU]; exact (hK.kept hlow).warm hW⟩⟩ rfl hk hL.1 hs (lv_room hst) hd ⟨hcs, hsl⟩) hlow hloc (fun H' locs' a1 a2 a3 => kk H' locs' ls a1 a2 a3 hL)
end XR
section XC
variable {g : t_G} {n u : Nat} {E : t_M} {adK adV : Nat → Nat} {fo : Value} {i : Nat}
abbrev x_len (i : Nat) : Nat := x_ln.getD i 0
abbrev x_ch (i j : Nat) : Int32 := (x_by.getD i []).getD j 0
theorem x_o (hi : i < 4) (s : State) (H : Heap) (h : x_S (t_z g) adK adV fo s H) : va_O "java/lang/String" (adK i) (fun q => t_z g ≤ q) s H := (h.1.1 i hi).1
theorem s_coder (hX : x_K g adK adV fo) (hi : i < 4) : tC g qJ0_coder_7d493 0 [.ref (adK i)] n u E (ri0 n u (fun r E' => r = nI 0 ∧ E' = E)) := by
  refine tC_of 0 (by decide) (Nat.le_of_ble_eq_true rfl) rfl ?_
  refine T_gZ hX (fun s H h => h.2.2.1) fJ0_38 dJ0_coder_7d493_0 ?_
  refine T_if_eq (tgt := 13) dJ0_coder_7d493_3 (by decide) (fun h9 => absurd h9 (by decide)) (fun _ => ?_)
  refine T_aload_n dJ0_coder_7d493_6 rfl rfl ?_
  refine T_gS hX (fun s H h => (h.1.1 i hi).2.1) fJ0_15 dJ0_coder_7d493_7 ?_
  refine T_goto (tgt := 14) dJ0_coder_7d493_10 (by decide) ?_
  exact T_ireturn dJ0_coder_7d493_14 rfl rfl ⟨_, rfl, rfl, rfl, rfl, rfl⟩
theorem s_lat (hX : x_K g adK adV fo) (hi : i < 4) : tC g qJ0_isLatin1_aae02 0 [.ref (adK i)] n u E (ri0 n u (fun r E' => r = nI 1 ∧ E' = E)) := by
  refine tC_of 0 (by decide) (Nat.le_of_ble_eq_true rfl) rfl ?_
  refine T_gZ hX (fun s H h => h.2.2.1) fJ0_38 dJ0_isLatin1_aae02_0 ?_
  refine T_if_eq (tgt := 17) dJ0_isLatin1_aae02_3 (by decide) (fun h9 => absurd h9 (by decide)) (fun _ => ?_)
  refine T_aload_n dJ0_isLatin1_aae02_6 rfl rfl ?_
  refine T_gS hX (fun s H h => (h.1.1 i hi).2.1) fJ0_15 dJ0_isLatin1_aae02_7 ?_
  refine T_if_ne (tgt := 17) dJ0_isLatin1_aae02_10 (by decide) (fun h9 => absurd rfl h9) (fun _ => ?_)
  refine N_iconst (k := 1) dJ0_isLatin1_aae02_13 ?_
  refine T_goto (tgt := 18) dJ0_isLatin1_aae02_14 (by decide) ?_
  exact T_ireturn dJ0_isLatin1_aae02_18 rfl rfl ⟨_, rfl, rfl, rfl, rfl, rfl⟩
theorem x_shr : ∀ i, i < 4 → nI (x_len i) >>> (nI 0 &&& 31) = nI (x_len i) := by decide
theorem x_chr : ∀ i, i < 4 → ∀ j, j < x_len i → ((x_ch i j &&& nI 255).toUInt32 % 65536).toInt32 = x_ch i j := by decide
theorem x_nar : ∀ i, i < 4 → ∀ j, j < x_len i → narrow .char (.int (x_ch i j)) = .int (x_ch i j) := by decide
theorem x_l6 : ∀ i, i < 4 → x_len i < 6 := by decide
theorem s_len (hX : x_K g adK adV fo) (hi : i < 4) : tC g qJ0_length_8abf5 1 [.ref (adK i)] n u E (ri0 n u (fun r E' => r = nI (x_len i) ∧ E' = E)) := by
  refine tC_of 0 (by decide) (Nat.le_of_ble_eq_true rfl) rfl ?_
  refine T_aload_n dJ0_length_8abf5_0 rfl rfl ?_
  refine T_gS hX (fun s H h => (h.1.1 i hi).2.2.1) fJ0_9 dJ0_length_8abf5_1 ?_
  refine T_lT hX (fun s H h => (h.1.1 i hi).2.2.2) dJ0_length_8abf5_4 ?_
  refine T_aload_n dJ0_length_8abf5_5 rfl rfl ?_
  refine T_callVS hX (x_o hi) dJ0_length_8abf5_6 mJ0_coder_7d493 lJ0_335 (As := []) rfl (by decide) (Nat.le_of_ble_eq_true rfl) rfl (s_coder hX hi) ?_
  rintro _ _ _ _ ⟨r9, rfl, rfl, rfl, rfl, rfl⟩
  refine T_ishr dJ0_length_8abf5_9 ?_
  exact T_ireturn dJ0_length_8abf5_10 rfl rfl ⟨_, rfl, rfl, rfl, x_shr i hi, rfl⟩
theorem s_pre (v : Value) (hv : v = .null ∨ ∃ a, v = .ref a) (j k9 : Nat) (hj : j < k9) (hk : k9 < 100) : tC g qJ3_checkIndex_8e157 0 [.int (nI j), .int (nI k9), v] n u E (ri0 n u (fun r E' => r = nI j ∧ E' = E)) := by
  rcases hv with rfl | ⟨a, rfl⟩
  · refine tC_of 0 (by decide) (Nat.le_of_ble_eq_true rfl) rfl ?_
    refine T_iload_n dJ3_checkIndex_8e157_0 rfl rfl ?_
    refine T_if_lt (tgt := 9) dJ3_checkIndex_8e157_1 (by decide) (fun h9 => absurd ((nI_ltI (b := 0) (by omega) (by omega)).mp h9) (by omega)) (fun _ => ?_)
    refine T_iload_n dJ3_checkIndex_8e157_4 rfl rfl ?_
    refine T_iload_n dJ3_checkIndex_8e157_5 rfl rfl ?_
    refine N_lt (tgt := 16) dJ3_checkIndex_8e157_6 (by decide) (by omega) (by omega) (fun _ => ?_) (fun h9 => absurd h9 (by omega))
    refine T_iload_n dJ3_checkIndex_8e157_16 rfl rfl ?_
    exact T_ireturn dJ3_checkIndex_8e157_17 rfl rfl ⟨_, rfl, rfl, rfl, rfl, rfl⟩
  · refine tC_of 0 (by decide) (Nat.le_of_ble_eq_true rfl) rfl ?_
    refine T_iload_n dJ3_checkIndex_8e157_0 rfl rfl ?_
    refine T_if_lt (tgt := 9) dJ3_checkIndex_8e157_1 (by decide) (fun h9 => absurd ((nI_ltI (b := 0) (by omega) (by omega)).mp h9) (by omega)) (fun _ => ?_)
    refine T_iload_n dJ3_checkIndex_8e157_4 rfl rfl ?_
    refine T_iload_n dJ3_checkIndex_8e157_5 rfl rfl ?_
    refine N_lt (tgt := 16) dJ3_checkIndex_8e157_6 (by decide) (by omega) (by omega) (fun _ => ?_) (fun h9 => absurd h9 (by omega))
    refine T_iload_n dJ3_checkIndex_8e157_16 rfl rfl ?_
    exact T_ireturn dJ3_checkIndex_8e157_17 rfl rfl ⟨_, rfl, rfl, rfl, rfl, rfl⟩
theorem s_chk (hX : x_K g adK adV fo) (j k9 : Nat) (hj : j < k9) (hk : k9 < 100) : tC g qJ0_checkIndex_df160 1 [.int (nI j), .int (nI k9)] n u E (rv0 n u (fun E' => E' = E)) := by
  refine tC_of 0 (by decide) (Nat.le_of_ble_eq_true rfl) rfl ?_
  refine T_iload_n dJ0_checkIndex_df160_0 rfl rfl ?_
  refine T_iload_n dJ0_checkIndex_df160_1 rfl rfl ?_
  refine T_gZ hX (fun s H h => h.2.2.2) fJ0_1053 dJ0_checkIndex_df160_2 ?_
  refine T_callS dJ0_checkIndex_df160_5 mJ3_checkIndex_8e157 lJ0_1059 (As := [.int (nI j), .int (nI k9), fo]) rfl (by decide) (Nat.le_of_ble_eq_true rfl) rfl (s_pre fo hX.2 j k9 hj hk) ?_
  rintro _ _ _ _ ⟨r9, rfl, rfl, rfl, rfl, rfl⟩
  refine T_pop dJ0_checkIndex_df160_8 rfl ?_
  exact T_return dJ0_checkIndex_df160_9 rfl ⟨rfl, rfl, rfl, rfl⟩
theorem s_chL (hX : x_K g adK adV fo) (hi : i < 4) (j : Nat) (hj : j < x_len i) : tC g qJ1_charAt_3b067 2 [.ref (adV i), .int (nI j)] n u E (ri0 n u (fun r E' => r = x_ch i j ∧ E' = E)) := by
  have h6 := x_l6 i hi
  refine tC_of 0 (by decide) (Nat.le_of_ble_eq_true rfl) rfl ?_
  refine T_iload_n dJ1_charAt_3b067_0 rfl rfl ?_
  refine T_aload_n dJ1_charAt_3b067_1 rfl rfl ?_
  refine T_lT hX (fun s H h => (h.1.1 i hi).2.2.2) dJ1_charAt_3b067_2 ?_
  refine T_callS dJ1_charAt_3b067_3 mJ0_checkIndex_df160 lJ1_9 (As := [.int (nI j), .int (nI (x_len i))]) rfl (by decide) (Nat.le_of_ble_eq_true rfl) rfl (s_chk hX j _ hj (by omega)) ?_
  rintro _ _ _ _ ⟨rfl, rfl, rfl, rfl⟩
  refine T_aload_n dJ1_charAt_3b067_6 rfl rfl ?_
  refine T_iload_n dJ1_charAt_3b067_7 rfl rfl ?_
  refine T_bT (v := .int (x_ch i j)) hX (fun s H h => (h.1.1 i hi).2.2.2) (vp_in_nI hj (by show x_len i < 2 ^ 31; omega)) (by rw [nI_clamp (by omega)]) dJ1_charAt_3b067_8 ?_
  refine N_sipush (k := 255) dJ1_charAt_3b067_9 (by decide) ?_
  refine T_iand dJ1_charAt_3b067_12 ?_
  refine T_i2c dJ1_charAt_3b067_13 ?_
  rw [x_chr i hi j hj]
  exact T_ireturn dJ1_charAt_3b067_14 rfl (x_nar i hi j hj) ⟨_, rfl, rfl, rfl, rfl, rfl⟩
theorem s_chA (hX : x_K g adK adV fo) (hi : i < 4) (j : Nat) (hj : j < x_len i) : tC g qJ0_charAt_5068e 3 [.ref (adK i), .int (nI j)] n u E (ri0 n u (fun r E' => r = x_ch i j ∧ E' = E)) := by
  refine tC_of 0 (by decide) (Nat.le_of_ble_eq_true rfl) rfl ?_
  refine T_aload_n dJ0_charAt_5068e_0 rfl rfl ?_
  refine T_callVS hX (x_o hi) dJ0_charAt_5068e_1 mJ0_isLatin1_aae02 lJ0_492 (As := []) rfl (by decide) (Nat.le_of_ble_eq_true rfl) rfl (s_lat hX hi) ?_
  rintro _ _ _ _ ⟨r9, rfl, rfl, rfl, rfl, rfl⟩
  refine T_if_eq (tgt := 16) dJ0_charAt_5068e_4 (by decide) (fun h9 => absurd h9 (by decide)) (fun _ => ?_)
  refine T_aload_n dJ0_charAt_5068e_7 rfl rfl ?_
  refine T_gS hX (fun s H h => (h.1.1 i hi).2.2.1) fJ0_9 dJ0_charAt_5068e_8 ?_
  refine T_iload_n dJ0_charAt_5068e_11 rfl rfl ?_
  refine T_callS dJ0_charAt_5068e_12 mJ1_charAt_3b067 lJ0_495 (As := [.ref (adV i), .int (nI j)]) rfl (by decide) (Nat.le_of_ble_eq_true rfl) rfl (s_chL hX hi j hj) ?_
  rintro _ _ _ _ ⟨r9, rfl, rfl, rfl, rfl, rfl⟩
  exact T_ireturn dJ0_charAt_5068e_15 rfl (x_nar i hi j hj) ⟨_, rfl, rfl, rfl, rfl, rfl⟩
end XC
