/-! a letter of work, the class's steps one by one -/
theorem nt_4 (x y z : Int32) (t : s_S) (i : Nat) : D_X0_note x y z t 4 i = t 4 i := nt_c _ _ _ _ _ _ (by decide)
theorem nt_5 (x y z : Int32) (t : s_S) (i : Nat) : D_X0_note x y z t 5 i = t 5 i := nt_c _ _ _ _ _ _ (by decide)
theorem nt_100 (x y z : Int32) (t : s_S) (i : Nat) : D_X0_note x y z t 100 i = t 100 i := nt_c _ _ _ _ _ _ (by decide)
theorem nt_101 (x y z : Int32) (t : s_S) (i : Nat) : D_X0_note x y z t 101 i = t 101 i := nt_c _ _ _ _ _ _ (by decide)
theorem nt_102 (x y z : Int32) (t : s_S) (i : Nat) : D_X0_note x y z t 102 i = t 102 i := nt_c _ _ _ _ _ _ (by decide)
theorem nt_103 (x y z : Int32) (t : s_S) (i : Nat) : D_X0_note x y z t 103 i = t 103 i := nt_c _ _ _ _ _ _ (by decide)
theorem nt_104 (x y z : Int32) (t : s_S) (i : Nat) : D_X0_note x y z t 104 i = t 104 i := nt_c _ _ _ _ _ _ (by decide)
theorem nt_105 (x y z : Int32) (t : s_S) (i : Nat) : D_X0_note x y z t 105 i = t 105 i := nt_c _ _ _ _ _ _ (by decide)
theorem nt_106 (x y z : Int32) (t : s_S) (i : Nat) : D_X0_note x y z t 106 i = t 106 i := nt_c _ _ _ _ _ _ (by decide)
theorem nt_107 (x y z : Int32) (t : s_S) (i : Nat) : D_X0_note x y z t 107 i = t 107 i := nt_c _ _ _ _ _ _ (by decide)
theorem nt_108 (x y z : Int32) (t : s_S) (i : Nat) : D_X0_note x y z t 108 i = t 108 i := nt_c _ _ _ _ _ _ (by decide)
theorem nt_109 (x y z : Int32) (t : s_S) (i : Nat) : D_X0_note x y z t 109 i = t 109 i := nt_c _ _ _ _ _ _ (by decide)
theorem nt_110 (x y z : Int32) (t : s_S) (i : Nat) : D_X0_note x y z t 110 i = t 110 i := nt_c _ _ _ _ _ _ (by decide)
theorem nt_111 (x y z : Int32) (t : s_S) (i : Nat) : D_X0_note x y z t 111 i = t 111 i := nt_c _ _ _ _ _ _ (by decide)
theorem nt_112 (x y z : Int32) (t : s_S) (i : Nat) : D_X0_note x y z t 112 i = t 112 i := nt_c _ _ _ _ _ _ (by decide)
theorem nt_116 (x y z : Int32) (t : s_S) (i : Nat) : D_X0_note x y z t 116 i = t 116 i := nt_c _ _ _ _ _ _ (by decide)
theorem nt_117 (x y z : Int32) (t : s_S) (i : Nat) : D_X0_note x y z t 117 i = t 117 i := nt_c _ _ _ _ _ _ (by decide)
theorem nt_120 (x y z : Int32) (t : s_S) (i : Nat) : D_X0_note x y z t 120 i = t 120 i := nt_c _ _ _ _ _ _ (by decide)
theorem nt_151 (x y z : Int32) (t : s_S) (i : Nat) : D_X0_note x y z t 151 i = t 151 i := nt_c _ _ _ _ _ _ (by decide)
theorem nt_153 (x y z : Int32) (t : s_S) (i : Nat) : D_X0_note x y z t 153 i = t 153 i := nt_c _ _ _ _ _ _ (by decide)
theorem nt_35 (x y z : Int32) (t : s_S) (i : Nat) : D_X0_note x y z t 35 i = t 35 i := nt_c _ _ _ _ _ _ (by decide)
theorem nt_36 (x y z : Int32) (t : s_S) (i : Nat) : D_X0_note x y z t 36 i = t 36 i := nt_c _ _ _ _ _ _ (by decide)
theorem lv_4 (w : Nat) (t : s_S) (i : Nat) : D_X1_leave w t 4 i = t 4 i := rd_ne (by decide) rfl
theorem lv_5 (w : Nat) (t : s_S) (i : Nat) : D_X1_leave w t 5 i = t 5 i := rd_ne (by decide) rfl
theorem lv_100 (w : Nat) (t : s_S) (i : Nat) : D_X1_leave w t 100 i = t 100 i := rd_ne (by decide) rfl
theorem lv_101 (w : Nat) (t : s_S) (i : Nat) : D_X1_leave w t 101 i = t 101 i := rd_ne (by decide) rfl
theorem lv_102 (w : Nat) (t : s_S) (i : Nat) : D_X1_leave w t 102 i = t 102 i := rd_ne (by decide) rfl
theorem lv_103 (w : Nat) (t : s_S) (i : Nat) : D_X1_leave w t 103 i = t 103 i := rd_ne (by decide) rfl
theorem lv_104 (w : Nat) (t : s_S) (i : Nat) : D_X1_leave w t 104 i = t 104 i := rd_ne (by decide) rfl
theorem lv_105 (w : Nat) (t : s_S) (i : Nat) : D_X1_leave w t 105 i = t 105 i := rd_ne (by decide) rfl
theorem lv_106 (w : Nat) (t : s_S) (i : Nat) : D_X1_leave w t 106 i = t 106 i := rd_ne (by decide) rfl
theorem lv_107 (w : Nat) (t : s_S) (i : Nat) : D_X1_leave w t 107 i = t 107 i := rd_ne (by decide) rfl
theorem lv_108 (w : Nat) (t : s_S) (i : Nat) : D_X1_leave w t 108 i = t 108 i := rd_ne (by decide) rfl
theorem lv_109 (w : Nat) (t : s_S) (i : Nat) : D_X1_leave w t 109 i = t 109 i := rd_ne (by decide) rfl
theorem lv_110 (w : Nat) (t : s_S) (i : Nat) : D_X1_leave w t 110 i = t 110 i := rd_ne (by decide) rfl
theorem lv_111 (w : Nat) (t : s_S) (i : Nat) : D_X1_leave w t 111 i = t 111 i := rd_ne (by decide) rfl
theorem lv_112 (w : Nat) (t : s_S) (i : Nat) : D_X1_leave w t 112 i = t 112 i := rd_ne (by decide) rfl
theorem lv_116 (w : Nat) (t : s_S) (i : Nat) : D_X1_leave w t 116 i = t 116 i := rd_ne (by decide) rfl
theorem lv_117 (w : Nat) (t : s_S) (i : Nat) : D_X1_leave w t 117 i = t 117 i := rd_ne (by decide) rfl
theorem lv_120 (w : Nat) (t : s_S) (i : Nat) : D_X1_leave w t 120 i = t 120 i := rd_ne (by decide) rfl
theorem lv_151 (w : Nat) (t : s_S) (i : Nat) : D_X1_leave w t 151 i = t 151 i := rd_ne (by decide) rfl
theorem lv_35 (w : Nat) (t : s_S) (i : Nat) : D_X1_leave w t 35 i = t 35 i := rd_ne (by decide) rfl
theorem lv_36 (w : Nat) (t : s_S) (i : Nat) : D_X1_leave w t 36 i = t 36 i := rd_ne (by decide) rfl
set_option maxRecDepth 20000 in
theorem tw_eq (i : Nat) (t : s_S) : D_X7_takeWork i t = D_tw i (s_n (t 151 (8 * i + 2))) (s_n (t 151 (8 * i + 1))) t := by
  unfold D_X7_takeWork D_tw D_t4 D_t3 D_t2 D_t1
  generalize s_n (t 151 (8 * i + 2)) = w
  generalize s_n (t 151 (8 * i + 1)) = fr
  by_cases c1 : t 112 w = 0
  · by_cases c2 : t 100 w = 0
    · by_cases c3 : t 105 w = 0
      · simp [c1, c2, c3, up2_ap, nt_4, nt_5, nt_100, nt_101, nt_102, nt_103, nt_104, nt_105, nt_106, nt_107, nt_108, nt_109, nt_110, nt_111, nt_112, nt_116, nt_117, nt_120, nt_151, nt_153, nt_35, nt_36, lv_4, lv_5, lv_100, lv_101, lv_102, lv_103, lv_104, lv_105, lv_106, lv_107, lv_108, lv_109, lv_110, lv_111, lv_112, lv_116, lv_117, lv_120, lv_151, lv_35, lv_36]
      · simp [c1, c2, c3, up2_ap, nt_4, nt_5, nt_100, nt_101, nt_102, nt_103, nt_104, nt_105, nt_106, nt_107, nt_108, nt_109, nt_110, nt_111, nt_112, nt_116, nt_117, nt_120, nt_151, nt_153, nt_35, nt_36, lv_4, lv_5, lv_100, lv_101, lv_102, lv_103, lv_104, lv_105, lv_106, lv_107, lv_108, lv_109, lv_110, lv_111, lv_112, lv_116, lv_117, lv_120, lv_151, lv_35, lv_36]
    · by_cases c3 : t 105 w = 0
      · simp [c1, c2, c3, up2_ap, nt_4, nt_5, nt_100, nt_101, nt_102, nt_103, nt_104, nt_105, nt_106, nt_107, nt_108, nt_109, nt_110, nt_111, nt_112, nt_116, nt_117, nt_120, nt_151, nt_153, nt_35, nt_36, lv_4, lv_5, lv_100, lv_101, lv_102, lv_103, lv_104, lv_105, lv_106, lv_107, lv_108, lv_109, lv_110, lv_111, lv_112, lv_116, lv_117, lv_120, lv_151, lv_35, lv_36]
      · simp [c1, c2, c3, up2_ap, nt_4, nt_5, nt_100, nt_101, nt_102, nt_103, nt_104, nt_105, nt_106, nt_107, nt_108, nt_109, nt_110, nt_111, nt_112, nt_116, nt_117, nt_120, nt_151, nt_153, nt_35, nt_36, lv_4, lv_5, lv_100, lv_101, lv_102, lv_103, lv_104, lv_105, lv_106, lv_107, lv_108, lv_109, lv_110, lv_111, lv_112, lv_116, lv_117, lv_120, lv_151, lv_35, lv_36]
  · by_cases c4 : t 151 (8 * i + 7) = 0
    · by_cases c2 : t 100 w = 0
      · by_cases c3 : t 105 w = 0
        · simp [c1, c2, c3, c4, up2_ap, nt_4, nt_5, nt_100, nt_101, nt_102, nt_103, nt_104, nt_105, nt_106, nt_107, nt_108, nt_109, nt_110, nt_111, nt_112, nt_116, nt_117, nt_120, nt_151, nt_153, nt_35, nt_36, lv_4, lv_5, lv_100, lv_101, lv_102, lv_103, lv_104, lv_105, lv_106, lv_107, lv_108, lv_109, lv_110, lv_111, lv_112, lv_116, lv_117, lv_120, lv_151, lv_35, lv_36]
        · simp [c1, c2, c3, c4, up2_ap, nt_4, nt_5, nt_100, nt_101, nt_102, nt_103, nt_104, nt_105, nt_106, nt_107, nt_108, nt_109, nt_110, nt_111, nt_112, nt_116, nt_117, nt_120, nt_151, nt_153, nt_35, nt_36, lv_4, lv_5, lv_100, lv_101, lv_102, lv_103, lv_104, lv_105, lv_106, lv_107, lv_108, lv_109, lv_110, lv_111, lv_112, lv_116, lv_117, lv_120, lv_151, lv_35, lv_36]
      · by_cases c3 : t 105 w = 0
        · simp [c1, c2, c3, c4, up2_ap, nt_4, nt_5, nt_100, nt_101, nt_102, nt_103, nt_104, nt_105, nt_106, nt_107, nt_108, nt_109, nt_110, nt_111, nt_112, nt_116, nt_117, nt_120, nt_151, nt_153, nt_35, nt_36, lv_4, lv_5, lv_100, lv_101, lv_102, lv_103, lv_104, lv_105, lv_106, lv_107, lv_108, lv_109, lv_110, lv_111, lv_112, lv_116, lv_117, lv_120, lv_151, lv_35, lv_36]
        · simp [c1, c2, c3, c4, up2_ap, nt_4, nt_5, nt_100, nt_101, nt_102, nt_103, nt_104, nt_105, nt_106, nt_107, nt_108, nt_109, nt_110, nt_111, nt_112, nt_116, nt_117, nt_120, nt_151, nt_153, nt_35, nt_36, lv_4, lv_5, lv_100, lv_101, lv_102, lv_103, lv_104, lv_105, lv_106, lv_107, lv_108, lv_109, lv_110, lv_111, lv_112, lv_116, lv_117, lv_120, lv_151, lv_35, lv_36]
    · by_cases c2 : t 100 w = 0
      · by_cases c3 : t 105 w = 0
        · simp [c1, c2, c3, c4, up2_ap, nt_4, nt_5, nt_100, nt_101, nt_102, nt_103, nt_104, nt_105, nt_106, nt_107, nt_108, nt_109, nt_110, nt_111, nt_112, nt_116, nt_117, nt_120, nt_151, nt_153, nt_35, nt_36, lv_4, lv_5, lv_100, lv_101, lv_102, lv_103, lv_104, lv_105, lv_106, lv_107, lv_108, lv_109, lv_110, lv_111, lv_112, lv_116, lv_117, lv_120, lv_151, lv_35, lv_36]
        · simp [c1, c2, c3, c4, up2_ap, nt_4, nt_5, nt_100, nt_101, nt_102, nt_103, nt_104, nt_105, nt_106, nt_107, nt_108, nt_109, nt_110, nt_111, nt_112, nt_116, nt_117, nt_120, nt_151, nt_153, nt_35, nt_36, lv_4, lv_5, lv_100, lv_101, lv_102, lv_103, lv_104, lv_105, lv_106, lv_107, lv_108, lv_109, lv_110, lv_111, lv_112, lv_116, lv_117, lv_120, lv_151, lv_35, lv_36]
      · by_cases c3 : t 105 w = 0
        · simp [c1, c2, c3, c4, up2_ap, nt_4, nt_5, nt_100, nt_101, nt_102, nt_103, nt_104, nt_105, nt_106, nt_107, nt_108, nt_109, nt_110, nt_111, nt_112, nt_116, nt_117, nt_120, nt_151, nt_153, nt_35, nt_36, lv_4, lv_5, lv_100, lv_101, lv_102, lv_103, lv_104, lv_105, lv_106, lv_107, lv_108, lv_109, lv_110, lv_111, lv_112, lv_116, lv_117, lv_120, lv_151, lv_35, lv_36]
        · simp [c1, c2, c3, c4, up2_ap, nt_4, nt_5, nt_100, nt_101, nt_102, nt_103, nt_104, nt_105, nt_106, nt_107, nt_108, nt_109, nt_110, nt_111, nt_112, nt_116, nt_117, nt_120, nt_151, nt_153, nt_35, nt_36, lv_4, lv_5, lv_100, lv_101, lv_102, lv_103, lv_104, lv_105, lv_106, lv_107, lv_108, lv_109, lv_110, lv_111, lv_112, lv_116, lv_117, lv_120, lv_151, lv_35, lv_36]
