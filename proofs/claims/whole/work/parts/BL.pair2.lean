/-! run by run: what holds between class and reference behind so many calls -/
def Rl9 (K : Nat) (S : c_S) (X mk bt : Nat → Int32) (s : s_S) : Prop :=
  (∃ n rz q T, T ≤ 300 * K ∧ Sx K n rz q T (S 0) s) ∧ WI (S 1) ∧
  (∃ jz, jz ≤ 3 ∧ X 3 = nI jz ∧ S 5 0 0 = nI jz ∧ ∀ j, j < jz → ∃ s' n rz q T, T ≤ 300 * K ∧ Sx K n rz q T (S (2 + j)) s' ∧ ∀ k, k < 8296 → mk (8296 * j + k) = fl s' k) ∧
  (S 5 1 0 = X 4 ∧ S 5 12 0 = X 9 ∧ S 5 13 0 = X 10) ∧ (∃ tz, tz ≤ 600 ∧ X 8 = nI tz ∧ S 5 11 0 = nI tz ∧ BT (S 5) bt tz) ∧ nb (X 16) 1000
section RLS
variable {K : Nat} {S : c_S} {X mk bt : Nat → Int32} {s : s_S}
theorem BI.of {n rz : Nat} {q : a_R} {T : Nat} {t : s_S} (h : Sx K n rz q T t s) : BI t := fun a i ha hi => by
  have ty := h.2.2.2.2.1.1.1.2.2.2
  have d : ∀ b, (b = 19 ∨ b = 30) → Dm (s_n (s 2 0)) b 0 := fun b hb => ⟨fun h9 => by omega, fun h9 => by omega, fun h9 => by omega, fun _ => rfl⟩
  have nd : ∀ b, (b = 105 ∨ b = 108 ∨ b = 112) → t b i = 0 ∨ t b i = 1 := fun b hb => by
    rw [h.nd (by omega) hi.1]; exact h.2.2.ty hb hi.1
  unfold bq at ha
  simp only [Bool.or_eq_true, beq_iff_eq] at ha
  rcases ha with (((((ha | ha) | ha) | ha) | ha) | ha) | ha
  · subst ha; exact nd 105 (by omega)
  · subst ha; exact nd 108 (by omega)
  · subst ha; exact nd 112 (by omega)
  · subst ha; rw [hi.2 (by omega), h.1.c 19 0 (by decide)]; exact (Ty_b (by omega)).mp (ty 19 0 (d 19 (Or.inl rfl)))
  · subst ha; rw [hi.2 (by omega)]; exact h.2.1.1
  · subst ha; rw [hi.2 (by omega)]; exact h.2.1.2
  · subst ha; rw [hi.2 (by omega), h.1.c 30 0 (by decide)]; exact (Ty_b (by omega)).mp (ty 30 0 (d 30 (Or.inr rfl)))
theorem Rl9.of {S' : c_S} {X' bt' : Nat → Int32} {s' : s_S} {n rz : Nat} {q : a_R} {T : Nat} (h : Rl9 K S X mk bt s) (hK : K + 1 ≤ 512) (h0 : Sx (K + 1) n rz q T (S' 0) s') (hT : T ≤ 300 * (K + 1)) (h1 : WI (S' 1)) (hm : ∀ j, j < 3 → S' (2 + j) = S (2 + j)) (c0 : S' 5 0 0 = S 5 0 0) (x3 : X' 3 = X 3) (cs : S' 5 1 0 = X' 4 ∧ S' 5 12 0 = X' 9 ∧ S' 5 13 0 = X' 10) (ct : ∃ tz, tz ≤ 600 ∧ X' 8 = nI tz ∧ S' 5 11 0 = nI tz ∧ BT (S' 5) bt' tz) (c16 : nb (X' 16) 1000) : Rl9 (K + 1) S' X' mk bt' s' := by
  obtain ⟨_, _, ⟨jz, j1, j2, j3, j4⟩, _, _, _⟩ := h
  refine ⟨⟨n, rz, q, T, hT, h0⟩, h1, ⟨jz, j1, x3.trans j2, c0.trans j3, fun j hj => ?_⟩, cs, ct, c16⟩
  obtain ⟨s9, n9, rz9, q9, T9, k1, k2, k3⟩ := j4 j hj
  exact ⟨s9, n9, rz9, q9, T9, by omega, by rw [hm j (by omega)]; exact k2.mono (by omega) hK, k3⟩
/-- the status alone is new -/
theorem Rl9.st {S' : c_S} {s' : s_S} {n rz : Nat} {q : a_R} {T : Nat} {y : Int32} (h : Rl9 K S X mk bt s) (hK : K + 1 ≤ 512) (h0 : Sx (K + 1) n rz q T (S' 0) s') (hT : T ≤ 300 * (K + 1)) (h1 : WI (S' 1)) (hm : ∀ j, j < 3 → S' (2 + j) = S (2 + j)) (h5 : S' 5 = up2 (S 5) 1 0 y) : Rl9 (K + 1) S' (upd (upd X 5 (nI 0)) 4 y) mk bt s' := by
  obtain ⟨tz, t1, t2, t3, t4⟩ := h.2.2.2.2.1
  have f : ∀ a i, a ≠ 1 → S' 5 a i = S 5 a i := fun a i ha => by rw [h5]; exact rd_ne ha rfl
  refine h.of hK h0 hT h1 hm (f 0 0 (by decide)) rfl ⟨by rw [h5]; exact up2_self _ _ _ _, (f 12 0 (by decide)).trans h.2.2.2.1.2.1, (f 13 0 (by decide)).trans h.2.2.2.1.2.2⟩ ⟨tz, t1, t2, (f 11 0 (by decide)).trans t3, fun i hi => by rw [f 10 i (by decide)]; exact t4 i hi⟩ h.2.2.2.2.2
theorem Rl9.yq {v : Int32} {S' : c_S} {p : Int32 × Int32} (h : Rl9 K S X mk bt s) (hK : K + 1 ≤ 512) (hy : Yq S v S' p) : Rl9 (K + 1) S' (upd (upd X 5 (nI 0)) 4 p.2) mk bt s := by
  obtain ⟨n, rz, q, T, hT, hS⟩ := h.1
  rw [hy.2]
  exact h.st hK (by rw [upw_ne (by decide)]; exact hS.mono (by omega) hK) (by omega) (by rw [upw_ne (by decide)]; exact h.2.1) (fun j hj => upw_ne (by omega)) (upw_self _ _ _)
theorem Rl9.yp {v : Int32} {S' : c_S} {p : Int32 × Int32} (h : Rl9 K S X mk bt s) (hK : K + 1 ≤ 512) (hy : Yp S v S' p) : Rl9 (K + 1) S' (upd (upd X 5 (nI 0)) 4 p.2) mk bt s := by
  obtain ⟨n, rz, q, T, hT, hS⟩ := h.1
  obtain ⟨t1, w1, _, e⟩ := hy
  rw [e]
  exact h.st hK (by rw [upw_ne (by decide), upw_ne (by decide)]; exact hS.mono (by omega) hK) (by omega) (by rw [upw_ne (by decide), upw_self]; exact w1) (fun j hj => by rw [upw_ne (by omega), upw_ne (by omega)]) (upw_self _ _ _)
theorem Rl9.yg {v : Int32} {S' : c_S} {p : Int32 × Int32 × s_S} {T : Nat} (h : Rl9 K S X mk bt s) (hK : K + 1 ≤ 512) (hT : T ≤ 300 * K) (hy : Yg K T S v S' p) : Rl9 (K + 1) S' (upd (upd X 5 (nI 0)) 4 p.2.1) mk bt p.2.2 := by
  obtain ⟨t', n', rz', q', T', k1, k2, _, e⟩ := hy
  rw [e]
  exact h.st hK (by rw [upw_ne (by decide), upw_self]; exact k1) (by omega) (by rw [upw_ne (by decide), upw_ne (by decide)]; exact h.2.1) (fun j hj => by rw [upw_ne (by omega), upw_ne (by omega)]) (upw_self _ _ _)
theorem Rl9.so (h : Rl9 K S X mk bt s) (hK : K + 1 ≤ 512) : Rl9 (K + 1) S (upd X 5 (nI 0)) mk bt s := by
  obtain ⟨n, rz, q, T, hT, hS⟩ := h.1
  exact h.of hK (hS.mono (by omega) hK) (by omega) h.2.1 (fun _ _ => rfl) rfl rfl h.2.2.2.1 h.2.2.2.2.1 h.2.2.2.2.2
end RLS
/-! the memory of both -/
section MEM
variable {g : t_G} {n n' u u' mo ac sa ma ow ta : Nat} {E E1 : t_M} {X : Nat → Int32} {wd : Int64} {sp mk bt f : Nat → Int32} {s : s_S}
def six (mo ac sa ma ow ta : Nat) (a : Nat) : Prop := a = mo ∨ a = ac ∨ a = sa ∨ a = ma ∨ a = ow ∨ a = ta
theorem qm_out {a : Nat} (h : ¬ six mo ac sa ma ow ta a) : q_M g mo ac sa ma ow ta E X wd sp mk bt f s a = E a := by
  unfold six at h
  unfold q_M r_E o_E q_B
  rw [va_up_ne _ _ (by omega), va_up_ne _ _ (by omega), va_up_ne _ _ (by omega), va_up_ne _ _ (by omega), va_up_ne _ _ (by omega), va_up_ne _ _ (by omega)]
theorem qm_in {a : Nat} (h : six mo ac sa ma ow ta a) : q_M g mo ac sa ma ow ta E X wd sp mk bt f s a = q_M g mo ac sa ma ow ta E1 X wd sp mk bt f s a := by
  have key : ∀ (e1 e2 : t_M) (b : Nat) (x : va_E), (a = b ∨ e1 a = e2 a) → va_up e1 b x a = va_up e2 b x a := fun e1 e2 b x hk => by
    by_cases c : a = b
    · subst c; rw [va_up_self, va_up_self]
    · rw [va_up_ne _ _ c, va_up_ne _ _ c]; exact hk.resolve_left c
  have key2 : ∀ (e1 e2 : t_M) (b : Nat) (x : va_E) (p : Prop), ((¬ a = b → p → e1 a = e2 a)) → p → va_up e1 b x a = va_up e2 b x a := fun e1 e2 b x p hk hp => by
    by_cases c : a = b
    · subst c; rw [va_up_self, va_up_self]
    · rw [va_up_ne _ _ c, va_up_ne _ _ c]; exact hk c hp
  unfold six at h
  unfold q_M r_E o_E q_B
  refine key2 _ _ _ _ (a = mo ∨ a = ac ∨ a = sa ∨ a = ma ∨ a = ow ∨ a = ta) (fun c1 h => ?_) h
  refine key2 _ _ _ _ _ (fun c2 h => ?_) h
  refine key2 _ _ _ _ _ (fun c3 h => ?_) h
  refine key2 _ _ _ _ _ (fun c4 h => ?_) h
  refine key2 _ _ _ _ _ (fun c5 h => ?_) h
  refine key2 _ _ _ _ _ (fun c6 h => ?_) h
  omega
theorem qm_self (e : E = q_M g mo ac sa ma ow ta E X wd sp mk bt f s) (h : ∀ a, six mo ac sa ma ow ta a → E1 a = E a) : E1 = q_M g mo ac sa ma ow ta E1 X wd sp mk bt f s := by
  funext a
  by_cases c : six mo ac sa ma ow ta a
  · rw [h a c, e]; exact qm_in c
  · exact (qm_out c).symm
theorem qm_again : q_M g mo ac sa ma ow ta E X wd sp mk bt f s = q_M g mo ac sa ma ow ta (q_M g mo ac sa ma ow ta E X wd sp mk bt f s) X wd sp mk bt f s := by
  funext a
  by_cases c : six mo ac sa ma ow ta a
  · exact qm_in c
  · rw [qm_out (E := q_M g mo ac sa ma ow ta E X wd sp mk bt f s) c]
theorem qW_six (h : q_W g n mo ac sa ma ow ta) {a : Nat} (ha : six mo ac sa ma ow ta a) : t_z g ≤ a ∧ a < t_z g + n := by
  obtain ⟨h1, h2, h3, h4, h5, h6, _⟩ := h
  rcases ha with rfl | rfl | rfl | rfl | rfl | rfl <;> assumption
theorem qW_n (h : q_W g n mo ac sa ma ow ta) (hk : ∀ a, six mo ac sa ma ow ta a → a < t_z g + n') : q_W g n' mo ac sa ma ow ta := by
  obtain ⟨h1, h2, h3, h4, h5, h6, hr⟩ := h
  exact ⟨⟨h1.1, hk _ (Or.inl rfl)⟩, ⟨h2.1, hk _ (Or.inr (Or.inl rfl))⟩, ⟨h3.1, hk _ (Or.inr (Or.inr (Or.inl rfl)))⟩, ⟨h4.1, hk _ (Or.inr (Or.inr (Or.inr (Or.inl rfl))))⟩, ⟨h5.1, hk _ (Or.inr (Or.inr (Or.inr (Or.inr (Or.inl rfl)))))⟩, ⟨h6.1, hk _ (Or.inr (Or.inr (Or.inr (Or.inr (Or.inr rfl)))))⟩, hr⟩
abbrev cL6 (g : t_G) (B : Nat → Nat) (mo ac sa ma ow ta : Nat) (E : t_M) (n0 u0 : Nat) : c_G := (g, B, (fun w => w < 6), six mo ac sa ma ow ta, E, n0, u0)
theorem cM_re {B : Nat → Nat} {n0 u0 : Nat} {S : c_S} {E2 : t_M} (h : cM (cL6 g B mo ac sa ma ow ta E n0 u0) S n u E1) (hk : ∀ a, ¬ six mo ac sa ma ow ta a → E2 a = E1 a) : cM (cL6 g B mo ac sa ma ow ta E2 n0 u0) S n u E2 := by
  obtain ⟨P, e, h1, h2, h3, h4, h5, h6, h7, h8⟩ := h
  refine ⟨P, e, fun a _ => rfl, fun w k hv => ?_, h3, h4, h5, h6, h7, h8⟩
  obtain ⟨k1, k2, k3, k4⟩ := h2 w k hv
  refine ⟨?_, k2, k3, k4⟩
  exact (hk _ k4).trans k1
end MEM
def LV (g : t_G) (xo mo n0 u0 K n u : Nat) (E : t_M) : Prop := ∃ (B : Nat → Nat) (ac sa ma ow ta : Nat) (S : c_S) (X : Nat → Int32) (wd : Int64) (sp mk bt f : Nat → Int32) (s : s_S), B 5 = xo ∧ q_W g n mo ac sa ma ow ta ∧ E = q_M g mo ac sa ma ow ta E X wd sp mk bt f s ∧ cM (cL6 g B mo ac sa ma ow ta E n0 u0) S n u E ∧ Rl9 K S X mk bt s
def Two (g : t_G) (xo mo n0 u0 : Nat) (q8 q9 : t_MI) (d8 d9 : Nat) (As : List Value) (K : Nat) : Prop := ∀ n u E, LV g xo mo n0 u0 K n u E → ∃ (v : Int32) (MID : Nat → Nat → t_M → Prop), tC g q8 d8 (.ref xo :: As) n u E (fun v' n1 u1 E1 => v' = some (.int v) ∧ MID n1 u1 E1) ∧ ∀ n1 u1 E1, MID n1 u1 E1 → ((t_z g ≤ mo ∧ mo < t_z g + n1) ∧ ∃ fs, E1 mo = .inr (9, fs)) ∧ tC g q9 d9 (.ref mo :: As) n1 u1 E1 (ri0 n1 u1 (fun r E' => r = v ∧ LV g xo mo n0 u0 (K + 1) n1 u1 E'))
section TWO
variable {g : t_G} {xo mo n0 u0 d8 d9 K : Nat} {q8 q9 : t_MI} {As : List Value}
theorem tC_imp {q : t_MI} {d n u : Nat} {E : t_M} {Q Q' : t_Q} (h : tC g q d As n u E Q) (hq : ∀ v n' u' E', Q v n' u' E' → Q' v n' u' E') : tC g q d As n u E Q' := by
  obtain ⟨v, n', u', E', h1, h2⟩ := h
  exact ⟨v, n', u', E', hq _ _ _ _ h1, h2⟩
/-- both calls, by what each does -/
theorem Two.of (h : ∀ (B : Nat → Nat) (ac sa ma ow ta n u : Nat) (E : t_M) (S : c_S) (X : Nat → Int32) (wd : Int64) (sp mk bt f : Nat → Int32) (s : s_S), B 5 = xo → q_W g n mo ac sa ma ow ta → Rl9 K S X mk bt s → ∃ (v : Int32) (S' : c_S), cF (cL6 g B mo ac sa ma ow ta E n0 u0) q8 d8 (.ref xo :: As) S (some (.int v)) S' ∧ ∀ n1 u1 E1, q_W g n1 mo ac sa ma ow ta → tC g q9 d9 (.ref mo :: As) n1 u1 (q_M g mo ac sa ma ow ta E1 X wd sp mk bt f s) (ri0 n1 u1 (fun r E' => r = v ∧ ∃ (ac' sa' : Nat) (X' : Nat → Int32) (wd' : Int64) (sp' mk' bt' f' : Nat → Int32) (s' : s_S), ((ac' = ac ∧ sa' = sa) ∨ (ac' = sa ∧ sa' = ac)) ∧ E' = q_M g mo ac' sa' ma ow ta E1 X' wd' sp' mk' bt' f' s' ∧ Rl9 (K + 1) S' X' mk' bt' s'))) : Two g xo mo n0 u0 q8 q9 d8 d9 As K := by
  intro n u E hL
  obtain ⟨B, ac, sa, ma, ow, ta, S, X, wd, sp, mk, bt, f, s, b5, hW, eE, hM, hR⟩ := hL
  obtain ⟨v, S', hF, hC⟩ := h B ac sa ma ow ta n u E S X wd sp mk bt f s b5 hW hR
  obtain ⟨P, e, hMx⟩ := hM
  refine ⟨v, fun n1 u1 E1 => cM (cL6 g B mo ac sa ma ow ta E n0 u0) S' n1 u1 E1, hF P e n u E hMx, fun n1 u1 E1 hM1 => ?_⟩
  have fr : ∀ a, six mo ac sa ma ow ta a → E1 a = E a := by
    obtain ⟨P1, e1, k1, _⟩ := hM1
    exact k1
  have lt : ∀ a, six mo ac sa ma ow ta a → a < t_z g + n1 := by
    obtain ⟨P1, e1, _, _, _, _, _, _, _, k8⟩ := hM1
    exact k8
  have hW1 := qW_n hW lt
  have e1 := qm_self eE fr
  have hc := hC n1 u1 E1 hW1
  rw [← e1] at hc
  refine ⟨⟨hW1.1, q_o ac sa ma ow ta X wd, by rw [e1]; exact q_mo hW1⟩, tC_imp hc ?_⟩
  · rintro v9 n9 u9 E' ⟨r, q1, q2, q3, hr, ac', sa', X', wd', sp', mk', bt', f', s', hsw, eE', hR'⟩
    refine ⟨r, q1, q2, q3, hr, ?_⟩
    have hsx : ∀ a, six mo ac' sa' ma ow ta a ↔ six mo ac sa ma ow ta a := fun a => by
      unfold six
      rcases hsw with ⟨rfl, rfl⟩ | ⟨rfl, rfl⟩
      · exact Iff.rfl
      · constructor
        · rintro (h | h | h | h | h | h) <;> simp [h]
        · rintro (h | h | h | h | h | h) <;> simp [h]
    have hsf : six mo ac' sa' ma ow ta = six mo ac sa ma ow ta := funext fun a => propext (hsx a)
    have hW' : q_W g n1 mo ac' sa' ma ow ta := by
      rcases hsw with ⟨rfl, rfl⟩ | ⟨rfl, rfl⟩
      · exact hW1
      · obtain ⟨h1, h2, h3, h4, h5, h6, h7, h8, h9, h10, h11, h12, h13, h14, h15, h16, h17, h18, h19, h20, h21⟩ := hW1
        exact ⟨h1, h3, h2, h4, h5, h6, h8, h7, h9, h10, h11, Ne.symm h12, h16, h17, h18, h13, h14, h15, h19, h20, h21⟩
    refine ⟨B, ac', sa', ma, ow, ta, S', X', wd', sp', mk', bt', f', s', b5, hW', ?_, ?_, hR'⟩
    · rw [eE']; exact qm_again
    · have k := cM_re hM1 (E2 := E') (fun a ha => by rw [eE']; exact qm_out (fun h9 => ha ((hsx a).mp h9)))
      show cM (g, B, (fun w => w < 6), six mo ac' sa' ma ow ta, E', n0, u0) S' n1 u1 E'
      rw [hsf]; exact k
end TWO
