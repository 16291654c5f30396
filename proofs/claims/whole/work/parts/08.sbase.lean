/-! the state as two-level rows; its flat form is the reference's row of cells -/
abbrev s_S : Type := Nat → Nat → Int32
def up2 (s : s_S) (a i : Nat) (x : Int32) : s_S := fun b => if b = a then upd (s a) i x else s b
theorem up2_a (s : s_S) (a i : Nat) (x : Int32) : up2 s a i x a = upd (s a) i x := if_pos rfl
theorem up2_ne {s : s_S} {a i b : Nat} {x : Int32} (h : b ≠ a) : up2 s a i x b = s b := if_neg h
theorem up2_self (s : s_S) (a i : Nat) (x : Int32) : up2 s a i x a i = x := by rw [up2_a, pk_us]
theorem up2_ni {s : s_S} {a i j : Nat} {x : Int32} (h : j ≠ i) : up2 s a i x a j = s a j := by rw [up2_a, pk_un h]
theorem up2_ap (s : s_S) (a i : Nat) (x : Int32) (b j : Nat) : up2 s a i x b j = if b = a ∧ j = i then x else s b j := by
  by_cases hb : b = a
  · subst hb
    by_cases hj : j = i
    · subst hj; rw [up2_self, if_pos ⟨rfl, rfl⟩]
    · rw [up2_ni hj, if_neg (fun h => hj h.2)]
  · rw [up2_ne hb, if_neg (fun h => hb h.1)]
theorem up2_ext {s t : s_S} (h : ∀ a i, s a i = t a i) : s = t := funext fun a => funext fun i => h a i
theorem up2_comm {s : s_S} {a i b j : Nat} {x y : Int32} (h : b < a) : up2 (up2 s a i x) b j y = up2 (up2 s b j y) a i x := by
  refine up2_ext fun c k => ?_
  simp only [up2_ap]
  by_cases h1 : c = b ∧ k = j
  · have h2 : ¬ (c = a ∧ k = i) := fun q => by omega
    simp [h1, h2]
    intro h3; omega
  · simp [h1]
theorem up2_up2 (s : s_S) (a i : Nat) (x y : Int32) : up2 (up2 s a i x) a i y = up2 s a i y := by
  refine up2_ext fun c k => ?_
  simp only [up2_ap]
  by_cases h1 : c = a ∧ k = i <;> simp [h1]
theorem up2_same (s : s_S) (a i : Nat) : up2 s a i (s a i) = s := by
  refine up2_ext fun c k => ?_
  simp only [up2_ap]
  by_cases h1 : c = a ∧ k = i
  · obtain ⟨rfl, rfl⟩ := h1; simp
  · simp [h1]
/-- the attribute and the place of a flat index -/
def s_a (k : Nat) : Nat := if k < 40 then (if k < 8 then k else if k < 12 then 8 else if k < 16 then 12 else k) else if k < 184 then 100 + (k - 40) / 8 else if k < 504 then 120 + (k - 184) / 64 else if k < 664 then 125 else if k < 8224 then 130 + (k - 664) % 9 else 140 + (k - 8224) % 3
def s_i (k : Nat) : Nat := if k < 40 then (if k < 8 then 0 else if k < 12 then k - 8 else if k < 16 then k - 12 else 0) else if k < 184 then (k - 40) % 8 else if k < 504 then (k - 184) % 64 else if k < 664 then k - 504 else if k < 8224 then (k - 664) / 9 else (k - 8224) / 3
def s_e (a i : Nat) : Nat := if a < 40 then a + i else if a < 118 then 40 + 8 * (a - 100) + i else if a < 125 then 184 + 64 * (a - 120) + i else if a = 125 then 504 + i else if a < 140 then 664 + 9 * i + (a - 130) else 8224 + 3 * i + (a - 140)
theorem s_e_ai (k : Nat) : s_e (s_a k) (s_i k) = k := by
  unfold s_a s_i
  by_cases h1 : k < 40
  · rw [if_pos h1, if_pos h1]
    by_cases h2 : k < 8
    · rw [if_pos h2, if_pos h2]; unfold s_e; rw [if_pos (by omega)]; omega
    · rw [if_neg h2, if_neg h2]
      by_cases h3 : k < 12
      · rw [if_pos h3, if_pos h3]; unfold s_e; rw [if_pos (by omega)]; omega
      · rw [if_neg h3, if_neg h3]
        by_cases h4 : k < 16
        · rw [if_pos h4, if_pos h4]; unfold s_e; rw [if_pos (by omega)]; omega
        · rw [if_neg h4, if_neg h4]; unfold s_e; rw [if_pos (by omega)]; omega
  · rw [if_neg h1, if_neg h1]
    by_cases h2 : k < 184
    · rw [if_pos h2, if_pos h2]; unfold s_e; rw [if_neg (by omega), if_pos (by omega)]; omega
    · rw [if_neg h2, if_neg h2]
      by_cases h3 : k < 504
      · rw [if_pos h3, if_pos h3]; unfold s_e; rw [if_neg (by omega), if_neg (by omega), if_pos (by omega)]; omega
      · rw [if_neg h3, if_neg h3]
        by_cases h4 : k < 664
        · rw [if_pos h4, if_pos h4]; unfold s_e; rw [if_neg (by omega), if_neg (by omega), if_neg (by omega), if_pos rfl]; omega
        · rw [if_neg h4, if_neg h4]
          by_cases h5 : k < 8224
          · rw [if_pos h5, if_pos h5]; unfold s_e; rw [if_neg (by omega), if_neg (by omega), if_neg (by omega), if_neg (by omega), if_pos (by omega)]; omega
          · rw [if_neg h5, if_neg h5]; unfold s_e; rw [if_neg (by omega), if_neg (by omega), if_neg (by omega), if_neg (by omega), if_neg (by omega)]; omega
def fl (s : s_S) : Nat → Int32 := fun k => s (s_a k) (s_i k)
theorem fl_upd (s : s_S) (k : Nat) (x : Int32) : upd (fl s) k x = fl (up2 s (s_a k) (s_i k) x) := by
  funext j
  by_cases h : j = k
  · subst h; rw [pk_us]; show x = up2 _ _ _ _ _ _; rw [up2_self]
  · rw [pk_un h]
    show s (s_a j) (s_i j) = up2 s (s_a k) (s_i k) x (s_a j) (s_i j)
    rw [up2_ap, if_neg]
    rintro ⟨h1, h2⟩
    apply h
    rw [← s_e_ai j, ← s_e_ai k, h1, h2]
/-- by regions -/
def s_at (k a i : Nat) : Prop := s_a k = a ∧ s_i k = i
theorem at_n {k : Nat} (j v : Nat) (hk : k = 40 + 8 * j + v) (hj : j < 18) (hv : v < 8) : s_at k (100 + j) v := by
  subst hk; unfold s_at s_a s_i
  rw [if_neg (by omega), if_pos (by omega), if_neg (by omega), if_pos (by omega)]; omega
theorem at_w {k : Nat} (j i : Nat) (hk : k = 184 + 64 * j + i) (hj : j < 5) (hi : i < 64) : s_at k (120 + j) i := by
  subst hk; unfold s_at s_a s_i
  rw [if_neg (by omega), if_neg (by omega), if_pos (by omega), if_neg (by omega), if_neg (by omega), if_pos (by omega)]; omega
theorem at_r {k : Nat} (i : Nat) (hk : k = 504 + i) (hi : i < 160) : s_at k 125 i := by
  subst hk; unfold s_at s_a s_i
  rw [if_neg (by omega), if_neg (by omega), if_neg (by omega), if_pos (by omega), if_neg (by omega), if_neg (by omega), if_neg (by omega), if_pos (by omega)]; omega
theorem at_l {k : Nat} (j i : Nat) (hk : k = 664 + 9 * i + j) (hj : j < 9) (hi : i < 840) : s_at k (130 + j) i := by
  subst hk; unfold s_at s_a s_i
  rw [if_neg (by omega), if_neg (by omega), if_neg (by omega), if_neg (by omega), if_pos (by omega), if_neg (by omega), if_neg (by omega), if_neg (by omega), if_neg (by omega), if_pos (by omega)]; omega
theorem at_e {k : Nat} (j i : Nat) (hk : k = 8224 + 3 * i + j) (hj : j < 3) : s_at k (140 + j) i := by
  subst hk; unfold s_at s_a s_i
  rw [if_neg (by omega), if_neg (by omega), if_neg (by omega), if_neg (by omega), if_neg (by omega), if_neg (by omega), if_neg (by omega), if_neg (by omega), if_neg (by omega), if_neg (by omega)]; omega
theorem at_t {k : Nat} (i : Nat) (hk : k = 8 + i) (hi : i < 4) : s_at k 8 i := by
  subst hk; unfold s_at s_a s_i
  rw [if_pos (by omega), if_neg (by omega), if_pos (by omega), if_pos (by omega), if_neg (by omega), if_pos (by omega)]; omega
theorem at_s {k : Nat} (i : Nat) (hk : k = 12 + i) (hi : i < 4) : s_at k 12 i := by
  subst hk; unfold s_at s_a s_i
  rw [if_pos (by omega), if_neg (by omega), if_neg (by omega), if_pos (by omega), if_pos (by omega), if_neg (by omega), if_neg (by omega), if_pos (by omega)]; omega
/-- a truth value as an int -/
def t_b (p : Prop) [Decidable p] : Int32 := if p then 1 else 0
theorem t_b_nar (p : Prop) [Decidable p] : narrow .boolean (.int (t_b p)) = .int (t_b p) := by unfold t_b; split <;> rfl
theorem t_b_fit (p : Prop) [Decidable p] : fits .boolean (.int (t_b p)) = true := by unfold t_b; split <;> rfl
theorem t_b1 : (1 : Int32) = t_b True := rfl
theorem t_b0 : (0 : Int32) = t_b False := rfl
theorem t_bt {p : Prop} [Decidable p] (h : p) : t_b p = 1 := if_pos h
theorem t_bf {p : Prop} [Decidable p] (h : ¬ p) : t_b p = 0 := if_neg h
theorem t_b_ne {p : Prop} [Decidable p] : ¬ t_b p = 0 ↔ p := by
  unfold t_b; split
  · exact ⟨fun _ => by assumption, fun _ => by decide⟩
  · exact ⟨fun h => absurd rfl h, fun h => absurd h (by assumption)⟩
theorem k8 {k : Nat} (h : k < 128) : (Int8.ofInt (k : Int)).toInt32 = nI k := by
  have : ∀ k : Fin 128, (Int8.ofInt ((k : Nat) : Int)).toInt32 = nI k := by decide +kernel
  exact this ⟨k, h⟩
theorem k16 {k : Nat} (h : k < 32768) : (Int16.ofInt (k : Int)).toInt32 = nI k := by
  apply Int32.toInt_inj.mp
  rw [nI_toInt (by omega), Int16.toInt_toInt32, Int16.toInt_ofInt]
  exact Int.bmod_eq_of_le (by have e : ((Int16.size : Nat) : Int) = 65536 := rfl; omega) (by have e : ((Int16.size : Nat) : Int) = 65536 := rfl; omega)
section TN
variable {g : t_G} {q : t_MI} {d pc : Nat} {lo : List (Option Value)} {st : List Value} {n u : Nat} {E : t_M} {Q : t_Q}
theorem N_iconst {k : Nat} (hd : decode q.2.1 pc = .ok (.iconst (k : Int), 1)) (h : tT g q d (pc + 1) lo (.int (nI k) :: st) n u E Q) : tT g q d pc lo st n u E Q := T_iconst hd (by rfl) h
theorem N_bipush {k : Nat} (hd : decode q.2.1 pc = .ok (.bipush (k : Int), 2)) (hk : k < 128) (h : tT g q d (pc + 2) lo (.int (nI k) :: st) n u E Q) : tT g q d pc lo st n u E Q := T_bipush hd (k8 hk) h
theorem N_sipush {k : Nat} (hd : decode q.2.1 pc = .ok (.sipush (k : Int), 3)) (hk : k < 32768) (h : tT g q d (pc + 3) lo (.int (nI k) :: st) n u E Q) : tT g q d pc lo st n u E Q := T_sipush hd (k16 hk) h
theorem N_iadd {a b : Nat} (hd : decode q.2.1 pc = .ok (.iadd, 1)) (h : tT g q d (pc + 1) lo (.int (nI (a + b)) :: st) n u E Q) : tT g q d pc lo (.int (nI b) :: .int (nI a) :: st) n u E Q := T_iadd hd (by rw [nI_add]; exact h)
theorem N_imul {a b : Nat} (hd : decode q.2.1 pc = .ok (.imul, 1)) (h : tT g q d (pc + 1) lo (.int (nI (a * b)) :: st) n u E Q) : tT g q d pc lo (.int (nI b) :: .int (nI a) :: st) n u E Q := T_imul hd (by rw [pk_mul]; exact h)
theorem N_isub {a b : Nat} (hd : decode q.2.1 pc = .ok (.isub, 1)) (hb : b ≤ a) (h : tT g q d (pc + 1) lo (.int (nI (a - b)) :: st) n u E Q) : tT g q d pc lo (.int (nI b) :: .int (nI a) :: st) n u E Q := T_isub hd (by rw [pk_sub hb]; exact h)
theorem N_iinc {i k x : Nat} (hd : decode q.2.1 pc = .ok (.iinc i (k : Int), 3)) (hl : lo[i]? = some (some (.int (nI x)))) (hn : i < q.2.2.1) (hnl : t_nl lo i = true) (h : tT g q d (pc + 3) (lo.set i (some (.int (nI (x + k))))) st n u E Q) : tT g q d pc lo st n u E Q := T_iinc hd hl hn hnl (by rw [show nI x + Int32.ofInt (k : Int) = nI (x + k) from nI_add x k]; exact h)
theorem N_lt {a b : Nat} {off : Int} {tgt : Nat} (hd : decode q.2.1 pc = .ok (.if_icmp .lt off, 3)) (ht : (pc : Int) + off = (tgt : Int)) (ha : a < 2 ^ 31) (hb : b < 2 ^ 31) (h1 : a < b → tT g q d tgt lo st n u E Q) (h2 : b ≤ a → tT g q d (pc + 3) lo st n u E Q) : tT g q d pc lo (.int (nI b) :: .int (nI a) :: st) n u E Q := T_icmp_lt hd ht (fun h => h1 ((nI_ltI ha hb).mp h)) (fun h => h2 (by rw [nI_ltI ha hb] at h; omega))
theorem N_ge {a b : Nat} {off : Int} {tgt : Nat} (hd : decode q.2.1 pc = .ok (.if_icmp .ge off, 3)) (ht : (pc : Int) + off = (tgt : Int)) (ha : a < 2 ^ 31) (hb : b < 2 ^ 31) (h1 : b ≤ a → tT g q d tgt lo st n u E Q) (h2 : a < b → tT g q d (pc + 3) lo st n u E Q) : tT g q d pc lo (.int (nI b) :: .int (nI a) :: st) n u E Q := T_icmp_ge hd ht (fun h => h1 ((nI_leI hb ha).mp h)) (fun h => h2 (by rw [nI_leI hb ha] at h; omega))
theorem N_gt {a b : Nat} {off : Int} {tgt : Nat} (hd : decode q.2.1 pc = .ok (.if_icmp .gt off, 3)) (ht : (pc : Int) + off = (tgt : Int)) (ha : a < 2 ^ 31) (hb : b < 2 ^ 31) (h1 : b < a → tT g q d tgt lo st n u E Q) (h2 : a ≤ b → tT g q d (pc + 3) lo st n u E Q) : tT g q d pc lo (.int (nI b) :: .int (nI a) :: st) n u E Q := T_icmp_gt hd ht (fun h => h1 ((nI_ltI hb ha).mp h)) (fun h => h2 (by rw [nI_ltI hb ha] at h; omega))
theorem N_eq {a b : Nat} {off : Int} {tgt : Nat} (hd : decode q.2.1 pc = .ok (.if_icmp .eq off, 3)) (ht : (pc : Int) + off = (tgt : Int)) (ha : a < 2 ^ 31) (hb : b < 2 ^ 31) (h1 : a = b → tT g q d tgt lo st n u E Q) (h2 : ¬ a = b → tT g q d (pc + 3) lo st n u E Q) : tT g q d pc lo (.int (nI b) :: .int (nI a) :: st) n u E Q := T_icmp_eq hd ht (fun h => h1 ((nI_eq ha hb).mp h)) (fun h => h2 (fun e => h (by rw [e])))
theorem N_ne {a b : Nat} {off : Int} {tgt : Nat} (hd : decode q.2.1 pc = .ok (.if_icmp .ne off, 3)) (ht : (pc : Int) + off = (tgt : Int)) (ha : a < 2 ^ 31) (hb : b < 2 ^ 31) (h1 : ¬ a = b → tT g q d tgt lo st n u E Q) (h2 : a = b → tT g q d (pc + 3) lo st n u E Q) : tT g q d pc lo (.int (nI b) :: .int (nI a) :: st) n u E Q := T_icmp_ne hd ht (fun h => h1 (fun e => h (by rw [e]))) (fun h => h2 ((nI_eq ha hb).mp h))
theorem B_ne {p : Prop} [Decidable p] {off : Int} {tgt : Nat} (hd : decode q.2.1 pc = .ok (.ifCond .ne off, 3)) (ht : (pc : Int) + off = (tgt : Int)) (h1 : p → tT g q d tgt lo st n u E Q) (h2 : ¬ p → tT g q d (pc + 3) lo st n u E Q) : tT g q d pc lo (.int (t_b p) :: st) n u E Q := T_if_ne hd ht (fun h => h1 (t_b_ne.mp h)) (fun h => h2 (fun hp => t_b_ne.mpr hp h))
theorem B_eq {p : Prop} [Decidable p] {off : Int} {tgt : Nat} (hd : decode q.2.1 pc = .ok (.ifCond .eq off, 3)) (ht : (pc : Int) + off = (tgt : Int)) (h1 : ¬ p → tT g q d tgt lo st n u E Q) (h2 : p → tT g q d (pc + 3) lo st n u E Q) : tT g q d pc lo (.int (t_b p) :: st) n u E Q := T_if_eq hd ht (fun h => h1 (fun hp => t_b_ne.mpr hp h)) (fun h => h2 (t_b_ne.mp h))
theorem N_iald {a N k : Nat} {f : Nat → Int32} (hd : decode q.2.1 pc = .ok (.iaload, 1)) (ha : t_z g ≤ a ∧ a < t_z g + n) (hE : E a = .inl (t_cI g, N, .inl f)) (hk : k < N) (hN : N < 2 ^ 31) (h : tT g q d (pc + 1) lo (.int (f k) :: st) n u E Q) : tT g q d pc lo (.int (nI k) :: .ref a :: st) n u E Q := T_iald hd ha hE (vp_in_nI hk hN) (by rw [nI_clamp (by omega)]; exact h)
theorem N_bald {a N k : Nat} {f : Nat → Int32} (hd : decode q.2.1 pc = .ok (.baload, 1)) (ha : t_z g ≤ a ∧ a < t_z g + n) (hE : E a = .inl (t_cB g, N, .inl f)) (hk : k < N) (hN : N < 2 ^ 31) (h : tT g q d (pc + 1) lo (.int (f k) :: st) n u E Q) : tT g q d pc lo (.int (nI k) :: .ref a :: st) n u E Q := T_bald hd ha hE (vp_in_nI hk hN) (by rw [nI_clamp (by omega)]; exact h)
theorem N_iast {a N k : Nat} {f : Nat → Int32} {x : Int32} (hd : decode q.2.1 pc = .ok (.iastore, 1)) (ha : t_z g ≤ a ∧ a < t_z g + n) (hE : E a = .inl (t_cI g, N, .inl f)) (hk : k < N) (hN : N < 2 ^ 31) (h : tT g q d (pc + 1) lo st n u (va_up E a (.inl (t_cI g, N, .inl (upd f k x)))) Q) : tT g q d pc lo (.int x :: .int (nI k) :: .ref a :: st) n u E Q := T_iast hd ha hE (vp_in_nI hk hN) (by rw [nI_clamp (by omega)]; exact h)
theorem N_bast {a N k : Nat} {f : Nat → Int32} {x : Int32} (hd : decode q.2.1 pc = .ok (.bastore, 1)) (ha : t_z g ≤ a ∧ a < t_z g + n) (hE : E a = .inl (t_cB g, N, .inl f)) (hk : k < N) (hN : N < 2 ^ 31) (h : tT g q d (pc + 1) lo st n u (va_up E a (.inl (t_cB g, N, .inl (upd f k x.toInt8.toInt32)))) Q) : tT g q d pc lo (.int x :: .int (nI k) :: .ref a :: st) n u E Q := T_bast hd ha hE (vp_in_nI hk hN) (by rw [nI_clamp (by omega)]; exact h)
theorem N_aald {a N k r : Nat} {t0 : Nat} {cA : ClassId} {C : String} {f : Nat → Option Nat} (ht : (t_ty g)[t0]? = some (cA, .object C)) (hd : decode q.2.1 pc = .ok (.aaload, 1)) (ha : t_z g ≤ a ∧ a < t_z g + n) (hE : E a = .inl (cA, N, .inr (.inr (.inr (.inr f))))) (hk : k < N) (hN : N < 2 ^ 31) (hf : f k = some r) (h : tT g q d (pc + 1) lo (.ref r :: st) n u E Q) : tT g q d pc lo (.int (nI k) :: .ref a :: st) n u E Q := T_aald ht hd ha hE (vp_in_nI hk hN) (by rw [nI_clamp (by omega)]; exact hf) h
theorem N_irem {a b : Nat} (hd : decode q.2.1 pc = .ok (.irem, 1)) (ha : a < 2 ^ 31) (hb0 : 0 < b) (hb : b < 2 ^ 31) (h : tT g q d (pc + 1) lo (.int (nI (a % b)) :: st) n u E Q) : tT g q d pc lo (.int (nI b) :: .int (nI a) :: st) n u E Q := T_irem hd (nI_ne0 hb0 hb) (by rw [pk_rem ha hb0 hb]; exact h)
end TN
theorem T_tabK {g : t_G} {q : t_MI} {d pc : Nat} {lo : List (Option Value)} {st : List Value} {n u : Nat} {E : t_M} {Q : t_Q} {dflt lw hi : Int} {offs : Array Int} {len : Nat} {x : Int32} {k : Nat} {off : Int} {tgt : Nat} (hx : x = nI k) (hd : decode q.2.1 pc = .ok (.tableswitch dflt lw hi offs, len)) (h1 : ¬ (nI k).toInt < lw) (h2 : ¬ hi < (nI k).toInt) (ho : offs[((nI k).toInt - lw).toNat]? = some off) (ht : (pc : Int) + off = (tgt : Int)) (h : tT g q d tgt lo st n u E Q) : tT g q d pc lo (.int x :: st) n u E Q := by
  subst hx
  exact T_tableIn hd h1 h2 ho ht h
theorem T_tabC {g : t_G} {q : t_MI} {d pc : Nat} {lo : List (Option Value)} {st : List Value} {n u : Nat} {E : t_M} {Q : t_Q} {dflt lw hi : Int} {offs : Array Int} {len : Nat} {x : Int32} {off : Int} {tgt : Nat} (k : Nat) (hd : decode q.2.1 pc = .ok (.tableswitch dflt lw hi offs, len)) (h1 : ¬ (nI k).toInt < lw) (h2 : ¬ hi < (nI k).toInt) (ho : offs[((nI k).toInt - lw).toNat]? = some off) (ht : (pc : Int) + off = (tgt : Int)) (ha : x = nI k → tT g q d tgt lo st n u E Q) (hb : ¬ x = nI k → tT g q d pc lo (.int x :: st) n u E Q) : tT g q d pc lo (.int x :: st) n u E Q := by
  by_cases hx : x = nI k
  · exact T_tabK hx hd h1 h2 ho ht (ha hx)
  · exact hb hx
theorem sw_out {x : Int32} {hi : Int} (N : Nat) (hN : N < 2 ^ 31) (hh : hi = (N : Int) - 1) (h : ∀ k, k < N → ¬ x = nI k) : x.toInt < 0 ∨ hi < x.toInt := by
  rcases Int.lt_or_le x.toInt 0 with h0 | h0
  · exact Or.inl h0
  · rcases Int.lt_or_le hi x.toInt with h1 | h1
    · exact Or.inr h1
    · exfalso
      refine h x.toInt.toNat (by omega) ?_
      apply Int32.toInt_inj.mp
      rw [nI_toInt (by omega)]
      omega
/-! ends of contracts: nothing is made -/
def rv0 (n u : Nat) (P : t_M → Prop) : t_Q := fun v n' u' E' => v = none ∧ n' = n ∧ u' = u ∧ P E'
def ri0 (n u : Nat) (P : Int32 → t_M → Prop) : t_Q := fun v n' u' E' => ∃ r : Int32, v = some (.int r) ∧ n' = n ∧ u' = u ∧ P r E'
/-! the reference's row -/
def r_E (g : t_G) (ac : Nat) (E0 : t_M) (s : s_S) : t_M := va_up E0 ac (.inl (t_cI g, 8296, .inl (fl s)))
def r_O (g : t_G) (n mo ac : Nat) (E0 : t_M) : Prop := (t_z g ≤ mo ∧ mo < t_z g + n) ∧ (t_z g ≤ ac ∧ ac < t_z g + n) ∧ mo ≠ ac ∧ ∃ fs : List Value, E0 mo = .inr (9, .ref ac :: fs)
theorem r_E_ac (g : t_G) (ac : Nat) (E0 : t_M) (s : s_S) : r_E g ac E0 s ac = .inl (t_cI g, 8296, .inl (fl s)) := va_up_self _ _ _
theorem r_E_up (g : t_G) (ac : Nat) (E0 : t_M) (s : s_S) (k : Nat) (x : Int32) : va_up (r_E g ac E0 s) ac (.inl (t_cI g, 8296, .inl (upd (fl s) k x))) = r_E g ac E0 (up2 s (s_a k) (s_i k) x) := by
  unfold r_E; rw [bx_uu, fl_upd]
section TRf
variable {g : t_G} {q : t_MI} {d pc : Nat} {lo : List (Option Value)} {st : List Value} {n u : Nat} {Q : t_Q} {mo ac : Nat} {E0 : t_M} {s : s_S}
theorem R_c {idx : Nat} (hO : r_O g n mo ac E0) (hd : decode q.2.1 pc = .ok (.getfield idx, 3)) (hf : t_FL q.1.cls idx 9 0) (h : tT g q d (pc + 3) lo (.ref ac :: st) n u (r_E g ac E0 s) Q) : tT g q d pc lo (.ref mo :: st) n u (r_E g ac E0 s) Q := by
  obtain ⟨h1, h2, h3, fs, h4⟩ := hO
  exact T_getf hd hf h1 ((va_up_ne _ _ h3).trans h4) rfl h
theorem R_ld {k a i : Nat} {x : Int32} (hO : r_O g n mo ac E0) (hd : decode q.2.1 pc = .ok (.iaload, 1)) (hk : k < 8296) (ha : s_at k a i) (hx : s a i = x) (h : tT g q d (pc + 1) lo (.int x :: st) n u (r_E g ac E0 s) Q) : tT g q d pc lo (.int (nI k) :: .ref ac :: st) n u (r_E g ac E0 s) Q := by
  obtain ⟨rfl, rfl⟩ := ha
  subst hx
  exact N_iald hd hO.2.1 (r_E_ac g ac E0 s) hk (by decide) h
theorem R_ldv {k a i : Nat} {x : Int32} (hO : r_O g n mo ac E0) (hd : decode q.2.1 pc = .ok (.iaload, 1)) (hk : k < 8296) (ha : s_at k a i) (hx : s a i = x) (h : s a i = x → tT g q d (pc + 1) lo (.int x :: st) n u (r_E g ac E0 s) Q) : tT g q d pc lo (.int (nI k) :: .ref ac :: st) n u (r_E g ac E0 s) Q := R_ld hO hd hk ha hx (h hx)
theorem R_st {k a i : Nat} {x : Int32} (hO : r_O g n mo ac E0) (hd : decode q.2.1 pc = .ok (.iastore, 1)) (hk : k < 8296) (ha : s_at k a i) (h : tT g q d (pc + 1) lo st n u (r_E g ac E0 (up2 s a i x)) Q) : tT g q d pc lo (.int x :: .int (nI k) :: .ref ac :: st) n u (r_E g ac E0 s) Q := by
  obtain ⟨rfl, rfl⟩ := ha
  exact N_iast hd hO.2.1 (r_E_ac g ac E0 s) hk (by decide) (by rw [r_E_up]; exact h)
theorem R_callV {idx k d' : Nat} {q' : t_MI} {As st' stk : List Value} {Q' : t_Q} (hO : r_O g n mo ac E0) (hd : decode q.2.1 pc = .ok (.invokevirtual idx, 3)) (hm : t_Mv q' k) (hl : Cond.methodLink q.1.cls idx q'.1 ∈ tw) (hcl : RX9 = q'.1.cls) (hk : As.length = k) (hdd : d' + 1 ≤ d) (hst : (st'.map fun v => v.category).sum ≤ 8) (hs : stk = As.reverse ++ .ref mo :: st') (hC : tC g q' d' (.ref mo :: As) n u (r_E g ac E0 s) Q')
    (h : ∀ v n' u' E', Q' v n' u' E' → tT g q d (pc + 3) lo (v.toList ++ st') n' u' E' Q) : tT g q d pc lo stk n u (r_E g ac E0 s) Q := by
  obtain ⟨h1, h2, h3, fs, h4⟩ := hO
  exact T_callV (r := (RX9, TX9, 19)) hd hm hl hk h1 ((va_up_ne _ _ h3).trans h4) rfl hcl hdd hst hs hC h
theorem R_calli {idx k d' : Nat} {q' : t_MI} {As st' stk : List Value} {x : Int32} {s' : s_S} (hO : r_O g n mo ac E0) (hd : decode q.2.1 pc = .ok (.invokevirtual idx, 3)) (hm : t_Mv q' k) (hl : Cond.methodLink q.1.cls idx q'.1 ∈ tw) (hC : tC g q' d' (.ref mo :: As) n u (r_E g ac E0 s) (ri0 n u (fun r E' => r = x ∧ E' = r_E g ac E0 s'))) (hcl : RX9 = q'.1.cls) (hk : As.length = k) (hdd : d' + 1 ≤ d) (hst : (st'.map fun v => v.category).sum ≤ 8) (hs : stk = As.reverse ++ .ref mo :: st')
    (h : tT g q d (pc + 3) lo (.int x :: st') n u (r_E g ac E0 s') Q) : tT g q d pc lo stk n u (r_E g ac E0 s) Q := by
  refine R_callV hO hd hm hl hcl hk hdd hst hs hC ?_
  rintro _ _ _ _ ⟨r, rfl, rfl, rfl, rfl, rfl⟩
  exact h
theorem R_callv {idx k d' : Nat} {q' : t_MI} {As st' stk : List Value} {s' : s_S} (hO : r_O g n mo ac E0) (hd : decode q.2.1 pc = .ok (.invokevirtual idx, 3)) (hm : t_Mv q' k) (hl : Cond.methodLink q.1.cls idx q'.1 ∈ tw) (hC : tC g q' d' (.ref mo :: As) n u (r_E g ac E0 s) (rv0 n u (fun E' => E' = r_E g ac E0 s'))) (hcl : RX9 = q'.1.cls) (hk : As.length = k) (hdd : d' + 1 ≤ d) (hst : (st'.map fun v => v.category).sum ≤ 8) (hs : stk = As.reverse ++ .ref mo :: st')
    (h : tT g q d (pc + 3) lo st' n u (r_E g ac E0 s') Q) : tT g q d pc lo stk n u (r_E g ac E0 s) Q := by
  refine R_callV hO hd hm hl hcl hk hdd hst hs hC ?_
  rintro _ _ _ _ ⟨rfl, rfl, rfl, rfl⟩
  exact h
end TRf
/-- a static call that answers an int and leaves the memory -/
theorem T_calls {g : t_G} {q : t_MI} {d pc : Nat} {lo : List (Option Value)} {n u : Nat} {E : t_M} {Q : t_Q} {idx k d' : Nat} {q' : t_MI} {As st' stk : List Value} {x : Int32} (hd : decode q.2.1 pc = .ok (.invokestatic idx, 3)) (hm : t_Ms q' k) (hl : Cond.methodLink q.1.cls idx q'.1 ∈ tw) (hC : tC g q' d' As n u E (ri0 n u (fun r E' => r = x ∧ E' = E))) (hk : As.length = k) (hdd : d' + 1 ≤ d) (hst : (st'.map fun v => v.category).sum ≤ 8) (hs : stk = As.reverse ++ st')
    (h : tT g q d (pc + 3) lo (.int x :: st') n u E Q) : tT g q d pc lo stk n u E Q := by
  refine T_callS hd hm hl hk hdd hst hs hC ?_
  rintro _ _ _ _ ⟨r, rfl, rfl, rfl, rfl, rfl⟩
  exact h
theorem T_callsN {g : t_G} {q : t_MI} {d pc : Nat} {lo : List (Option Value)} {n u : Nat} {E : t_M} {Q : t_Q} {idx k d' : Nat} {host : String} {q' : t_MI} {As st' stk : List Value} {x : Int32} (hd : decode q.2.1 pc = .ok (.invokestatic idx, 3)) (hm : t_Ms q' k) (hl : Cond.methodLinkNest q.1.cls idx q'.1 host ∈ tables_1) (hC : tC g q' d' As n u E (ri0 n u (fun r E' => r = x ∧ E' = E))) (hk : As.length = k) (hdd : d' + 1 ≤ d) (hst : (st'.map fun v => v.category).sum ≤ 8) (hs : stk = As.reverse ++ st')
    (h : tT g q d (pc + 3) lo (.int x :: st') n u E Q) : tT g q d pc lo stk n u E Q := by
  refine T_callSN hd hm hl hk hdd hst hs hC ?_
  rintro _ _ _ _ ⟨r, rfl, rfl, rfl, rfl, rfl⟩
  exact h
theorem rd_ne {s : s_S} {a i b j : Nat} {x y : Int32} (h : b ≠ a) (h2 : s b j = y) : up2 s a i x b j = y := by rw [up2_ne h]; exact h2
theorem rd_ni {s : s_S} {a i j : Nat} {x y : Int32} (h : j ≠ i) (h2 : s a j = y) : up2 s a i x a j = y := by rw [up2_ni h]; exact h2
