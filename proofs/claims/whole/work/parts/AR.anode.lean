/-! nodes that are not there stay as they were -/
def an (n : Nat) (x x' : a_X) : Prop := ∀ a v, 100 ≤ a → a ≤ 111 → n ≤ v → x'.1 a v = x.1 a v
section AN1
variable {n rz : Nat} {q : a_R} {B P : Int} {c r v w a u : Nat} {z : a_Z} {L M K N : List a_L} {l : a_L} {x y x' X : a_X} {s : s_S}
theorem an.rf (n : Nat) (x : a_X) : an n x x := fun _ _ _ _ _ => rfl
theorem an.tr (h : an n x y) (h' : an n y X) : an n x X := fun a v h1 h2 h3 => (h' a v h1 h2 h3).trans (h a v h1 h2 h3)
theorem an.zn {a i : Nat} {Y : Int} {L L' : List a_L} (h : an n x (z, L)) (ha : 100 ≤ a → i < n) : an n x (zu z a i Y, L') := fun b v h1 h2 h3 => by
  refine Eq.trans ?_ (h b v h1 h2 h3)
  show zu z a i Y b v = z b v
  by_cases d : b = a
  · exact zu_ni (by have := ha (by omega); omega)
  · exact zu_ne d
theorem an.li {L L' : List a_L} (h : an n x (z, L)) : an n x (z, L') := h
theorem an.zs {a i : Nat} {Y : Int} {L L' : List a_L} (h : an n x (z, L)) (ha : a < 100) : an n x (zu z a i Y, L') := h.zn (fun h9 => by omega)
theorem an.come (ht : lT l < n) : an n x (a_come l x) := by
  have h : an n x (x.1, x.2) := an.rf n x
  unfold a_come
  split
  · split
    · exact ((((h.zn (fun _ => ht) (L' := x.2)).zn (fun _ => ht) (L' := x.2)).zn (fun _ => ht) (L' := x.2)).zn (fun _ => ht) (L' := x.2)).zn (fun _ => ht)
    · exact ((((((h.zn (fun _ => ht) (L' := x.2)).zn (fun _ => ht) (L' := x.2)).zn (fun _ => ht) (L' := x.2)).zn (fun _ => ht) (L' := x.2)).zn (fun _ => ht) (L' := x.2)).zn (fun _ => ht) (L' := x.2)).zn (fun _ => ht)
  · split
    · exact h.zn (fun _ => ht)
    · split
      · exact h.zs (by omega)
      · split
        · exact h.zs (by omega)
        · exact h.zs (by omega)
theorem an.cf : ∀ (M K N : List a_L) (z : a_Z), (∀ l, l ∈ M → lT l < n) → an n (z, []) ((M.foldl a_cst (z, K, N)).1, []) := by
  intro M
  induction M with
  | nil => intro K N z _; exact an.rf n _
  | cons l M ih =>
    intro K N z h
    have hr := fun m hm => h m (List.mem_cons_of_mem _ hm)
    rw [List.foldl_cons, a_cst_e]
    split
    · have k1 : an n (z, []) ((a_come l (z, [])).1, []) := an.come (x := (z, [])) (h l (List.mem_cons_self ..))
      exact k1.tr (ih _ _ _ hr)
    · exact ih _ _ _ hr
theorem an.send {to : Nat} {o : Int} (hv : v < n) : an n x (a_send v to o x) := by
  have h : an n x (x.1, x.2) := an.rf n x
  unfold a_send
  split
  · exact (((((h.zn (fun _ => hv) (L' := x.2)).zs (by omega) (L' := x.2)).zn (fun _ => hv) (L' := x.2)).zn (fun _ => hv) (L' := x.2)).zs (by omega) (L' := x.2)).zn (fun _ => hv)
  · exact ((((h.zn (fun _ => hv) (L' := x.2)).zs (by omega) (L' := x.2)).zn (fun _ => hv) (L' := x.2)).zn (fun _ => hv) (L' := x.2)).zn (fun _ => hv)
theorem an.loop {b : Nat → a_X → a_X} : ∀ k, (∀ j y, j < k → an n y (b j y)) → an n x (itx b k x) := by
  intro k
  induction k with
  | zero => intro _; exact an.rf n x
  | succ k ih => intro h; exact (ih (fun j y hj => h j y (by omega))).tr (h k _ (by omega))
theorem an.work (hv : v < n) : an n x (a_work q rz v x) := by
  unfold a_work
  split
  · exact an.rf n x
  · split
    · have h : an n x (a_work0 v x) := ((an.rf n x).zn (z := x.1) (L := x.2) (L' := x.2) (fun _ => hv)).zn (fun _ => hv)
      exact h.tr (an.loop rz (fun j y _ => by
        unfold a_row
        split
        · exact an.send hv
        · exact an.rf n y))
    · exact an.rf n x
theorem an.told {w : Nat} : an n x (a_told w x) := (an.rf n x).zs (z := x.1) (L := x.2) (by omega)
theorem an.w1 (hv : v < n) : an n x (a_w1 v x) := by
  have h : an n x (x.1, x.2) := an.rf n x
  unfold a_w1
  split
  · split
    · exact h
    · split
      · split
        · exact an.told
        · exact (h.zn (fun _ => hv) (L' := x.2)).zn (fun _ => hv)
      · exact h
  · exact h
theorem an.w2 (hv : v < n) : an n x (a_w2 n v x) := by
  have h : an n x (x.1, x.2) := an.rf n x
  unfold a_w2
  split
  · split
    · split
      · split
        · exact an.told
        · exact ((((h.zn (fun _ => by omega) (L' := x.2)).zs (by omega) (L' := x.2)).zs (by omega) (L' := x.2)).zs (by omega) (L' := x.2)).zs (by omega)
      · exact (((h.zs (by omega) (L' := x.2)).zs (by omega) (L' := x.2)).zn (fun _ => hv) (L' := x.2)).zs (by omega)
    · exact h
  · exact h
theorem an.w3 (hv : v < n) : an n x (a_w3 v x) := by
  have h : an n x (x.1, x.2) := an.rf n x
  have p : 0 < n → an n x (a_pool x) := fun hn => (h.zn (fun _ => hn) (L' := x.2)).zs (by omega)
  unfold a_w3
  split
  · split
    · split
      · exact (p (by omega)).tr an.told
      · exact p (by omega)
    · split
      · exact h
      · exact h.zn (fun _ => hv)
  · exact h
theorem an.w4 : an n x (a_w4 n v x) := by
  have h : an n x (x.1, x.2) := an.rf n x
  have wv : ∀ y : a_X, an n y (a_wave y) := fun y => ((((an.rf n y).zs (z := y.1) (L := y.2) (L' := y.2) (by omega)).zs (by omega) (L' := y.2)).zs (by omega) (L' := y.2)).zs (by omega)
  unfold a_w4
  split
  · split
    · split
      · split
        · exact wv x
        · split
          · exact an.told
          · have ah : an n x (a_ahead x) := ((h.zs (by omega) (L' := x.2)).zs (by omega) (L' := x.2)).zs (by omega)
            exact ah.tr (wv _)
      · exact ((h.zs (by omega) (L' := x.2)).zs (by omega) (L' := x.2)).zs (by omega)
    · exact h
  · exact h
theorem an.watch (hv : v < n) : an n x (a_watch n v x) := by
  unfold a_watch
  split
  · split
    · exact (an.w1 hv).tr ((an.w2 hv).tr ((an.w3 hv).tr an.w4))
    · exact an.rf n x
  · exact an.rf n x
theorem an.truth : an n x (a_truth n x) := by
  unfold a_truth
  split
  · split
    · exact (an.rf n x).zs (z := x.1) (L := x.2) (by omega)
    · exact an.rf n x
  · exact an.rf n x
theorem an.sleep (hv : v < n) : an n x (a_sleep v x) := by
  unfold a_sleep
  split
  · exact an.rf n x
  · exact (an.rf n x).zn (z := x.1) (L := x.2) (fun _ => hv)
theorem an.tick (h : ∀ l, l ∈ x.2 → lT l < n) : an n x (a_tick n rz q x) := by
  unfold a_tick a_tick1
  have k0 : an n x (zu x.1 4 0 (x.1 4 0 + 1), x.2) := (an.rf n x).zs (z := x.1) (L := x.2) (by omega)
  have k1 : an n (zu x.1 4 0 (x.1 4 0 + 1), x.2) (a_comes (zu x.1 4 0 (x.1 4 0 + 1), x.2)) := an.cf x.2 [] [] (zu x.1 4 0 (x.1 4 0 + 1)) h
  exact k0.tr (k1.tr ((an.loop n (fun j y hj => an.work hj)).tr ((an.loop n (fun j y hj => an.watch hj)).tr (an.truth.tr (an.loop n (fun j y hj => an.sleep hj))))))
/-- they hold nothing -/
def Zr (n : Nat) (x : a_X) : Prop := ∀ a v, 100 ≤ a → a ≤ 109 → n ≤ v → v < 8 → x.1 a v = if a = 104 then -1 else 0
theorem Zr.tick (h : Zr n x) (hl : ∀ l, l ∈ x.2 → lT l < n) : Zr n (a_tick n rz q x) := fun a v h1 h2 h3 h4 => (an.tick hl a v h1 (by omega) h3).trans (h a v h1 h2 h3 h4)
end AN1
