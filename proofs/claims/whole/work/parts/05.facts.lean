theorem tw_ps (ws : List Cond) (ps : List Nat) (h : ws = ps.filterMap (fun i => tables_1[i]?)) (hg : ws.all goodWord = true) : ∀ w ∈ ws, w ∈ tw := by
  intro w hw
  have h1 := List.all_eq_true.mp hg w hw
  rw [h] at hw
  obtain ⟨i, -, hi⟩ := List.mem_filterMap.mp hw
  exact tw_of (List.mem_append_right _ (List.mem_of_getElem? hi)) h1
theorem tw_at {w : Cond} (i : Nat) (h : tables_1[i]? = some w) (hg : goodWord w = true) : w ∈ tw := tw_of (List.mem_append_right _ (List.mem_of_getElem? h)) hg
theorem tw_pv {w : Cond} (i : Nat) (h : (k2_sels lw_privs)[i]? = some w) (hg : goodWord w = true) : w ∈ tw := tw_of (List.mem_append_left _ (List.mem_of_getElem? h)) hg

theorem tw_k {w : Cond} {ws : List Cond} (hs : ∀ w ∈ ws, w ∈ tables_1) (i : Nat) (h : ws[i]? = some w) (hg : goodWord w = true) : w ∈ tw := tw_of (List.mem_append_right _ (hs w (List.mem_of_getElem? h))) hg
theorem tw_s1 : ∀ w ∈ tables_1_1, w ∈ tables_1 := fun w h => List.mem_append_left _ h
theorem tw_s2 : ∀ w ∈ tables_1_2, w ∈ tables_1 := fun w h => List.mem_append_right _ (List.mem_append_left _ h)
theorem tw_s3 : ∀ w ∈ tables_1_3, w ∈ tables_1 := fun w h => List.mem_append_right _ (List.mem_append_right _ (List.mem_append_left _ h))
theorem tw_s4 : ∀ w ∈ tables_1_4, w ∈ tables_1 := fun w h => List.mem_append_right _ (List.mem_append_right _ (List.mem_append_right _ (List.mem_append_left _ h)))
theorem tw_s5 : ∀ w ∈ tables_1_5, w ∈ tables_1 := fun w h => List.mem_append_right _ (List.mem_append_right _ (List.mem_append_right _ (List.mem_append_right _ (List.mem_append_left _ h))))
theorem tw_s6 : ∀ w ∈ tables_1_6, w ∈ tables_1 := fun w h => List.mem_append_right _ (List.mem_append_right _ (List.mem_append_right _ (List.mem_append_right _ (List.mem_append_right _ (List.mem_append_left _ h)))))
theorem tw_s7 : ∀ w ∈ tables_1_7, w ∈ tables_1 := fun w h => List.mem_append_right _ (List.mem_append_right _ (List.mem_append_right _ (List.mem_append_right _ (List.mem_append_right _ (List.mem_append_right _ (h))))))
theorem uX0 : ∀ w ∈ u_ws RX0 TX0 3, w ∈ tw := tw_ps _ [131, 133, 135] (by decide +kernel) (by decide +kernel)
theorem uX1 : ∀ w ∈ u_ws RX1 TX1 2, w ∈ tw := tw_ps _ [116, 118] (by decide +kernel) (by decide +kernel)
theorem uX2 : ∀ w ∈ u_ws RX2 TX2 2, w ∈ tw := tw_ps _ [103, 105] (by decide +kernel) (by decide +kernel)
theorem uX3 : ∀ w ∈ u_ws RX3 TX3 18, w ∈ tw := tw_ps _ [260, 262, 264, 266, 268, 270, 272, 274, 276, 278, 280, 282, 284, 286, 288, 290, 292, 294] (by decide +kernel) (by decide +kernel)
theorem uX4 : ∀ w ∈ u_ws RX4 TX4 3, w ∈ tw := tw_ps _ [85, 87, 89] (by decide +kernel) (by decide +kernel)
theorem uX5 : ∀ w ∈ u_ws RX5 TX5 9, w ∈ tw := tw_ps _ [45, 47, 49, 51, 53, 55, 57, 59, 61] (by decide +kernel) (by decide +kernel)
theorem uX6 : ∀ w ∈ u_ws RX6 TX6 19, w ∈ tw := tw_ps _ [181, 183, 185, 187, 189, 191, 193, 195, 197, 199, 201, 203, 205, 207, 209, 211, 213, 215, 217] (by decide +kernel) (by decide +kernel)
theorem uX7 : ∀ w ∈ u_ws RX7 TX7 16, w ∈ tw := tw_ps _ [373, 375, 377, 379, 381, 383, 385, 387, 389, 391, 393, 395, 397, 399, 401, 403] (by decide +kernel) (by decide +kernel)
theorem uX8 : ∀ w ∈ u_ws RX8 TX8 6, w ∈ tw := tw_ps _ [413, 415, 417, 419, 421, 423] (by decide +kernel) (by decide +kernel)
theorem uX9 : ∀ w ∈ u_ws RX9 TX9 19, w ∈ tw := tw_ps _ [1166, 1168, 1170, 1172, 1174, 1176, 1178, 1180, 1182, 1184, 1186, 1188, 1190, 1192, 1194, 1196, 1198, 1200, 1202] (by decide +kernel) (by decide +kernel)
theorem iL : Cond.initialized RL ∈ tw := tw_k tw_s1 0 rfl rfl
theorem iX8 : Cond.initialized RX8 ∈ tw := tw_k tw_s1 1 rfl rfl
theorem iX5 : Cond.initialized RX5 ∈ tw := tw_k tw_s1 2 rfl rfl
theorem iX7 : Cond.initialized RX7 ∈ tw := tw_k tw_s1 3 rfl rfl
theorem iX4 : Cond.initialized RX4 ∈ tw := tw_k tw_s1 4 rfl rfl
theorem iX2 : Cond.initialized RX2 ∈ tw := tw_k tw_s1 5 rfl rfl
theorem iX1 : Cond.initialized RX1 ∈ tw := tw_k tw_s1 6 rfl rfl
theorem iX0 : Cond.initialized RX0 ∈ tw := tw_k tw_s1 7 rfl rfl
theorem iX6 : Cond.initialized RX6 ∈ tw := tw_k tw_s1 8 rfl rfl
theorem iX3 : Cond.initialized RX3 ∈ tw := tw_k tw_s1 9 rfl rfl
theorem iJ7 : Cond.initialized RJ7 ∈ tw := tw_k tw_s1 10 rfl rfl
theorem iX9 : Cond.initialized RX9 ∈ tw := tw_k tw_s1 11 rfl rfl
theorem iJ9 : Cond.initialized RJ9 ∈ tw := tw_k tw_s1 12 rfl rfl
theorem iJ0 : Cond.initialized RJ0 ∈ tw := tw_k tw_s1 13 rfl rfl
theorem iJ1 : Cond.initialized RJ1 ∈ tw := tw_k tw_s1 14 rfl rfl
theorem iJ3 : Cond.initialized RJ3 ∈ tw := tw_k tw_s1 15 rfl rfl
theorem iJ2 : Cond.initialized RJ2 ∈ tw := tw_k tw_s1 16 rfl rfl
theorem iJ10 : Cond.initialized RJ10 ∈ tw := tw_k tw_s1 17 rfl rfl
theorem iJ13 : Cond.initialized RJ13 ∈ tw := tw_k tw_s1 18 rfl rfl
abbrev qX0_init : t_MI := (yX0_init, cX0_init, 1, none)
theorem mX0_init : t_Mi qX0_init 0 := ⟨⟨tw_k tw_s1 125 rfl rfl, iX0, ⟨by decide, by decide, by decide +kernel⟩, by decide⟩, tw_k tw_s1 124 rfl rfl, rfl, rfl⟩
abbrev qX0_note : t_MI := (yX0_note, cX0_note, 5, none)
theorem mX0_note : t_Mv qX0_note 3 := ⟨⟨tw_k tw_s4 157 rfl rfl, iX0, ⟨by decide, by decide, by decide +kernel⟩, by decide⟩, tw_k tw_s4 155 rfl rfl, tw_k tw_s4 156 rfl rfl⟩
abbrev qX0_part : t_MI := (yX0_part, cX0_part, 4, (some .int))
theorem mX0_part : t_Mv qX0_part 2 := ⟨⟨tw_k tw_s4 136 rfl rfl, iX0, ⟨by decide, by decide, by decide +kernel⟩, by decide⟩, tw_k tw_s4 134 rfl rfl, tw_k tw_s4 135 rfl rfl⟩
abbrev qX0_clear : t_MI := (yX0_clear, cX0_clear, 1, none)
theorem mX0_clear : t_Mv qX0_clear 0 := ⟨⟨tw_k tw_s2 64 rfl rfl, iX0, ⟨by decide, by decide, by decide +kernel⟩, by decide⟩, tw_k tw_s2 62 rfl rfl, tw_k tw_s2 63 rfl rfl⟩
abbrev qX0_copyFrom : t_MI := (yX0_copyFrom, cX0_copyFrom, 2, none)
theorem mX0_copyFrom : t_Mv qX0_copyFrom 1 := ⟨⟨tw_k tw_s3 134 rfl rfl, iX0, ⟨by decide, by decide, by decide +kernel⟩, by decide⟩, tw_k tw_s3 132 rfl rfl, tw_k tw_s3 133 rfl rfl⟩
abbrev qX1_init : t_MI := (yX1_init, cX1_init, 1, none)
theorem mX1_init : t_Mi qX1_init 0 := ⟨⟨tw_k tw_s1 112 rfl rfl, iX1, ⟨by decide, by decide, by decide +kernel⟩, by decide⟩, tw_k tw_s1 111 rfl rfl, rfl, rfl⟩
abbrev qX1_part : t_MI := (yX1_part, cX1_part, 3, (some .int))
theorem mX1_part : t_Mv qX1_part 2 := ⟨⟨tw_k tw_s4 95 rfl rfl, iX1, ⟨by decide, by decide, by decide +kernel⟩, by decide⟩, tw_k tw_s4 93 rfl rfl, tw_k tw_s4 94 rfl rfl⟩
abbrev qX1_enter : t_MI := (yX1_enter, cX1_enter, 5, none)
theorem mX1_enter : t_Mv qX1_enter 3 := ⟨⟨tw_k tw_s5 13 rfl rfl, iX1, ⟨by decide, by decide, by decide +kernel⟩, by decide⟩, tw_k tw_s5 11 rfl rfl, tw_k tw_s5 12 rfl rfl⟩
abbrev qX1_leave : t_MI := (yX1_leave, cX1_leave, 2, none)
theorem mX1_leave : t_Mv qX1_leave 1 := ⟨⟨tw_k tw_s4 229 rfl rfl, iX1, ⟨by decide, by decide, by decide +kernel⟩, by decide⟩, tw_k tw_s4 227 rfl rfl, tw_k tw_s4 228 rfl rfl⟩
abbrev qX1_keepMost : t_MI := (yX1_keepMost, cX1_keepMost, 5, none)
theorem mX1_keepMost : t_Mv qX1_keepMost 1 := ⟨⟨tw_k tw_s5 91 rfl rfl, iX1, ⟨by decide, by decide, by decide +kernel⟩, by decide⟩, tw_k tw_s5 89 rfl rfl, tw_k tw_s5 90 rfl rfl⟩
abbrev qX1_clear : t_MI := (yX1_clear, cX1_clear, 1, none)
theorem mX1_clear : t_Mv qX1_clear 0 := ⟨⟨tw_k tw_s2 91 rfl rfl, iX1, ⟨by decide, by decide, by decide +kernel⟩, by decide⟩, tw_k tw_s2 89 rfl rfl, tw_k tw_s2 90 rfl rfl⟩
abbrev qX1_copyFrom : t_MI := (yX1_copyFrom, cX1_copyFrom, 2, none)
theorem mX1_copyFrom : t_Mv qX1_copyFrom 1 := ⟨⟨tw_k tw_s3 129 rfl rfl, iX1, ⟨by decide, by decide, by decide +kernel⟩, by decide⟩, tw_k tw_s3 127 rfl rfl, tw_k tw_s3 128 rfl rfl⟩
abbrev qX2_init : t_MI := (yX2_init, cX2_init, 1, none)
theorem mX2_init : t_Mi qX2_init 0 := ⟨⟨tw_k tw_s1 96 rfl rfl, iX2, ⟨by decide, by decide, by decide +kernel⟩, by decide⟩, tw_k tw_s1 95 rfl rfl, rfl, rfl⟩
abbrev qX2_part : t_MI := (yX2_part, cX2_part, 3, (some .int))
theorem mX2_part : t_Mv qX2_part 2 := ⟨⟨tw_k tw_s3 185 rfl rfl, iX2, ⟨by decide, by decide, by decide +kernel⟩, by decide⟩, tw_k tw_s3 183 rfl rfl, tw_k tw_s3 184 rfl rfl⟩
abbrev qX2_put : t_MI := (yX2_put, cX2_put, 7, (some .int))
theorem mX2_put : t_Mv qX2_put 5 := ⟨⟨tw_k tw_s4 237 rfl rfl, iX2, ⟨by decide, by decide, by decide +kernel⟩, by decide⟩, tw_k tw_s4 235 rfl rfl, tw_k tw_s4 236 rfl rfl⟩
abbrev qX2_fill : t_MI := (yX2_fill, cX2_fill, 5, none)
theorem mX2_fill : t_Mv qX2_fill 4 := ⟨⟨tw_k tw_s5 38 rfl rfl, iX2, ⟨by decide, by decide, by decide +kernel⟩, by decide⟩, tw_k tw_s5 36 rfl rfl, tw_k tw_s5 37 rfl rfl⟩
abbrev qX2_takeOutUntil : t_MI := (yX2_takeOutUntil, cX2_takeOutUntil, 4, none)
theorem mX2_takeOutUntil : t_Mv qX2_takeOutUntil 1 := ⟨⟨tw_k tw_s5 25 rfl rfl, iX2, ⟨by decide, by decide, by decide +kernel⟩, by decide⟩, tw_k tw_s5 23 rfl rfl, tw_k tw_s5 24 rfl rfl⟩
abbrev qX2_works : t_MI := (yX2_works, cX2_works, 3, (some .int))
theorem mX2_works : t_Mv qX2_works 0 := ⟨⟨tw_k tw_s3 181 rfl rfl, iX2, ⟨by decide, by decide, by decide +kernel⟩, by decide⟩, tw_k tw_s3 179 rfl rfl, tw_k tw_s3 180 rfl rfl⟩
abbrev qX2_signals : t_MI := (yX2_signals, cX2_signals, 1, (some .int))
theorem mX2_signals : t_Mv qX2_signals 0 := ⟨⟨tw_k tw_s3 189 rfl rfl, iX2, ⟨by decide, by decide, by decide +kernel⟩, by decide⟩, tw_k tw_s3 187 rfl rfl, tw_k tw_s3 188 rfl rfl⟩
abbrev qX2_weightTogether : t_MI := (yX2_weightTogether, cX2_weightTogether, 3, (some .int))
theorem mX2_weightTogether : t_Mv qX2_weightTogether 0 := ⟨⟨tw_k tw_s4 75 rfl rfl, iX2, ⟨by decide, by decide, by decide +kernel⟩, by decide⟩, tw_k tw_s4 73 rfl rfl, tw_k tw_s4 74 rfl rfl⟩
abbrev qX2_clearRed : t_MI := (yX2_clearRed, cX2_clearRed, 2, none)
theorem mX2_clearRed : t_Mv qX2_clearRed 0 := ⟨⟨tw_k tw_s2 83 rfl rfl, iX2, ⟨by decide, by decide, by decide +kernel⟩, by decide⟩, tw_k tw_s2 81 rfl rfl, tw_k tw_s2 82 rfl rfl⟩
abbrev qX2_copyFrom : t_MI := (yX2_copyFrom, cX2_copyFrom, 2, none)
theorem mX2_copyFrom : t_Mv qX2_copyFrom 1 := ⟨⟨tw_k tw_s3 124 rfl rfl, iX2, ⟨by decide, by decide, by decide +kernel⟩, by decide⟩, tw_k tw_s3 122 rfl rfl, tw_k tw_s3 123 rfl rfl⟩
abbrev qX3_init : t_MI := (yX3_init, cX3_init, 1, none)
theorem mX3_init : t_Mi qX3_init 0 := ⟨⟨tw_k tw_s1 223 rfl rfl, iX3, ⟨by decide, by decide, by decide +kernel⟩, by decide⟩, tw_k tw_s1 222 rfl rfl, rfl, rfl⟩
abbrev qX3_turnRed : t_MI := (yX3_turnRed, cX3_turnRed, 1, none)
theorem mX3_turnRed : t_Mv qX3_turnRed 0 := ⟨⟨tw_k tw_s4 208 rfl rfl, iX3, ⟨by decide, by decide, by decide +kernel⟩, by decide⟩, tw_k tw_s4 206 rfl rfl, tw_k tw_s4 207 rfl rfl⟩
abbrev qX3_recordOf : t_MI := (yX3_recordOf, cX3_recordOf, 2, (some .int))
theorem mX3_recordOf : t_Mv qX3_recordOf 1 := ⟨⟨tw_k tw_s4 119 rfl rfl, iX3, ⟨by decide, by decide, by decide +kernel⟩, by decide⟩, tw_k tw_s4 117 rfl rfl, tw_k tw_s4 118 rfl rfl⟩
abbrev qX3_clearRed : t_MI := (yX3_clearRed, cX3_clearRed, 1, none)
theorem mX3_clearRed : t_Mv qX3_clearRed 0 := ⟨⟨tw_k tw_s2 87 rfl rfl, iX3, ⟨by decide, by decide, by decide +kernel⟩, by decide⟩, tw_k tw_s2 85 rfl rfl, tw_k tw_s2 86 rfl rfl⟩
abbrev qX3_clear : t_MI := (yX3_clear, cX3_clear, 1, none)
theorem mX3_clear : t_Mv qX3_clear 0 := ⟨⟨tw_k tw_s2 101 rfl rfl, iX3, ⟨by decide, by decide, by decide +kernel⟩, by decide⟩, tw_k tw_s2 99 rfl rfl, tw_k tw_s2 100 rfl rfl⟩
abbrev qX3_copyFrom : t_MI := (yX3_copyFrom, cX3_copyFrom, 2, none)
theorem mX3_copyFrom : t_Mv qX3_copyFrom 1 := ⟨⟨tw_k tw_s3 112 rfl rfl, iX3, ⟨by decide, by decide, by decide +kernel⟩, by decide⟩, tw_k tw_s3 110 rfl rfl, tw_k tw_s3 111 rfl rfl⟩
abbrev qX4_init : t_MI := (yX4_init, cX4_init, 1, none)
theorem mX4_init : t_Mi qX4_init 0 := ⟨⟨tw_k tw_s1 77 rfl rfl, iX4, ⟨by decide, by decide, by decide +kernel⟩, by decide⟩, tw_k tw_s1 76 rfl rfl, rfl, rfl⟩
abbrev qX4_part : t_MI := (yX4_part, cX4_part, 3, (some .int))
theorem mX4_part : t_Mv qX4_part 2 := ⟨⟨tw_k tw_s3 213 rfl rfl, iX4, ⟨by decide, by decide, by decide +kernel⟩, by decide⟩, tw_k tw_s3 211 rfl rfl, tw_k tw_s3 212 rfl rfl⟩
abbrev qX4_append : t_MI := (yX4_append, cX4_append, 6, none)
theorem mX4_append : t_Mv qX4_append 4 := ⟨⟨tw_k tw_s3 104 rfl rfl, iX4, ⟨by decide, by decide, by decide +kernel⟩, by decide⟩, tw_k tw_s3 102 rfl rfl, tw_k tw_s3 103 rfl rfl⟩
abbrev qX4_takeOut : t_MI := (yX4_takeOut, cX4_takeOut, 3, none)
theorem mX4_takeOut : t_Mv qX4_takeOut 1 := ⟨⟨tw_k tw_s4 171 rfl rfl, iX4, ⟨by decide, by decide, by decide +kernel⟩, by decide⟩, tw_k tw_s4 169 rfl rfl, tw_k tw_s4 170 rfl rfl⟩
abbrev qX4_copyFrom : t_MI := (yX4_copyFrom, cX4_copyFrom, 2, none)
theorem mX4_copyFrom : t_Mv qX4_copyFrom 1 := ⟨⟨tw_k tw_s3 119 rfl rfl, iX4, ⟨by decide, by decide, by decide +kernel⟩, by decide⟩, tw_k tw_s3 117 rfl rfl, tw_k tw_s3 118 rfl rfl⟩
abbrev qX4_leastLoad : t_MI := (yX4_leastLoad, cX4_leastLoad, 6, (some .int))
theorem mX4_leastLoad : t_Mv qX4_leastLoad 0 := ⟨⟨tw_k tw_s5 164 rfl rfl, iX4, ⟨by decide, by decide, by decide +kernel⟩, by decide⟩, tw_k tw_s5 162 rfl rfl, tw_k tw_s5 163 rfl rfl⟩
abbrev qX4_sentWith : t_MI := (yX4_sentWith, cX4_sentWith, 7, (some .int))
theorem mX4_sentWith : t_Mv qX4_sentWith 1 := ⟨⟨tw_k tw_s5 168 rfl rfl, iX4, ⟨by decide, by decide, by decide +kernel⟩, by decide⟩, tw_k tw_s5 166 rfl rfl, tw_k tw_s5 167 rfl rfl⟩
abbrev qX5_init : t_MI := (yX5_init, cX5_init, 1, none)
theorem mX5_init : t_Mi qX5_init 0 := ⟨⟨tw_k tw_s1 31 rfl rfl, iX5, ⟨by decide, by decide, by decide +kernel⟩, by decide⟩, tw_k tw_s1 30 rfl rfl, rfl, rfl⟩
abbrev qX5_hasRoomFor : t_MI := (yX5_hasRoomFor, cX5_hasRoomFor, 2, (some .boolean))
theorem mX5_hasRoomFor : t_Mv qX5_hasRoomFor 1 := ⟨⟨tw_k tw_s2 197 rfl rfl, iX5, ⟨by decide, by decide, by decide +kernel⟩, by decide⟩, tw_k tw_s2 195 rfl rfl, tw_k tw_s2 196 rfl rfl⟩
abbrev qX5_put : t_MI := (yX5_put, cX5_put, 3, none)
theorem mX5_put : t_Mv qX5_put 1 := ⟨⟨tw_k tw_s2 201 rfl rfl, iX5, ⟨by decide, by decide, by decide +kernel⟩, by decide⟩, tw_k tw_s2 199 rfl rfl, tw_k tw_s2 200 rfl rfl⟩
abbrev qX5_read : t_MI := (yX5_read, cX5_read, 5, (some .boolean))
theorem mX5_read : t_Mv qX5_read 2 := ⟨⟨tw_k tw_s2 213 rfl rfl, iX5, ⟨by decide, by decide, by decide +kernel⟩, by decide⟩, tw_k tw_s2 211 rfl rfl, tw_k tw_s2 212 rfl rfl⟩
abbrev qX5_readHead : t_MI := (yX5_readHead, cX5_readHead, 2, (some .boolean))
theorem mX5_readHead : t_Mv qX5_readHead 1 := ⟨⟨tw_k tw_s2 223 rfl rfl, iX5, ⟨by decide, by decide, by decide +kernel⟩, by decide⟩, tw_k tw_s2 221 rfl rfl, tw_k tw_s2 222 rfl rfl⟩
abbrev qX5_readLine : t_MI := (yX5_readLine, cX5_readLine, 2, (some .boolean))
theorem mX5_readLine : t_Mv qX5_readLine 1 := ⟨⟨tw_k tw_s3 78 rfl rfl, iX5, ⟨by decide, by decide, by decide +kernel⟩, by decide⟩, tw_k tw_s3 76 rfl rfl, tw_k tw_s3 77 rfl rfl⟩
abbrev qX5_readWire : t_MI := (yX5_readWire, cX5_readWire, 5, (some .boolean))
theorem mX5_readWire : t_Mv qX5_readWire 2 := ⟨⟨tw_k tw_s3 83 rfl rfl, iX5, ⟨by decide, by decide, by decide +kernel⟩, by decide⟩, tw_k tw_s3 81 rfl rfl, tw_k tw_s3 82 rfl rfl⟩
abbrev qX5_readRow : t_MI := (yX5_readRow, cX5_readRow, 5, (some .boolean))
theorem mX5_readRow : t_Mv qX5_readRow 1 := ⟨⟨tw_k tw_s3 100 rfl rfl, iX5, ⟨by decide, by decide, by decide +kernel⟩, by decide⟩, tw_k tw_s3 98 rfl rfl, tw_k tw_s3 99 rfl rfl⟩
abbrev qX5_wants : t_MI := (yX5_wants, cX5_wants, 2, (some .boolean))
theorem mX5_wants : t_Mv qX5_wants 1 := ⟨⟨tw_k tw_s3 5 rfl rfl, iX5, ⟨by decide, by decide, by decide +kernel⟩, by decide⟩, tw_k tw_s3 3 rfl rfl, tw_k tw_s3 4 rfl rfl⟩
abbrev qX5_wantsSign : t_MI := (yX5_wantsSign, cX5_wantsSign, 1, (some .boolean))
theorem mX5_wantsSign : t_Mv qX5_wantsSign 0 := ⟨⟨tw_k tw_s3 74 rfl rfl, iX5, ⟨by decide, by decide, by decide +kernel⟩, by decide⟩, tw_k tw_s3 72 rfl rfl, tw_k tw_s3 73 rfl rfl⟩
abbrev qX5_wantsNumber : t_MI := (yX5_wantsNumber, cX5_wantsNumber, 3, (some .boolean))
theorem mX5_wantsNumber : t_Mv qX5_wantsNumber 2 := ⟨⟨tw_k tw_s3 66 rfl rfl, iX5, ⟨by decide, by decide, by decide +kernel⟩, by decide⟩, tw_k tw_s3 64 rfl rfl, tw_k tw_s3 65 rfl rfl⟩
abbrev qX5_wantsNode : t_MI := (yX5_wantsNode, cX5_wantsNode, 3, (some .boolean))
theorem mX5_wantsNode : t_Mv qX5_wantsNode 2 := ⟨⟨tw_k tw_s3 87 rfl rfl, iX5, ⟨by decide, by decide, by decide +kernel⟩, by decide⟩, tw_k tw_s3 85 rfl rfl, tw_k tw_s3 86 rfl rfl⟩
abbrev qX5_blame : t_MI := (yX5_blame, cX5_blame, 2, (some .boolean))
theorem mX5_blame : t_Mv qX5_blame 1 := ⟨⟨tw_k tw_s3 9 rfl rfl, iX5, ⟨by decide, by decide, by decide +kernel⟩, by decide⟩, tw_k tw_s3 7 rfl rfl, tw_k tw_s3 8 rfl rfl⟩
abbrev qX5_scan : t_MI := (yX5_scan, cX5_scan, 1, none)
theorem mX5_scan : t_Mv qX5_scan 0 := ⟨⟨tw_k tw_s2 227 rfl rfl, iX5, ⟨by decide, by decide, by decide +kernel⟩, by decide⟩, tw_k tw_s2 225 rfl rfl, tw_k tw_s2 226 rfl rfl⟩
abbrev qX5_scanWord : t_MI := (yX5_scanWord, cX5_scanWord, 1, none)
theorem mX5_scanWord : t_Mv qX5_scanWord 0 := ⟨⟨tw_k tw_s2 234 rfl rfl, iX5, ⟨by decide, by decide, by decide +kernel⟩, by decide⟩, tw_k tw_s2 232 rfl rfl, tw_k tw_s2 233 rfl rfl⟩
abbrev qX5_scanNumber : t_MI := (yX5_scanNumber, cX5_scanNumber, 1, none)
theorem mX5_scanNumber : t_Mv qX5_scanNumber 0 := ⟨⟨tw_k tw_s3 1 rfl rfl, iX5, ⟨by decide, by decide, by decide +kernel⟩, by decide⟩, tw_k tw_s2 239 rfl rfl, tw_k tw_s3 0 rfl rfl⟩
abbrev qX5_isWord : t_MI := (yX5_isWord, cX5_isWord, 4, (some .boolean))
theorem mX5_isWord : t_Mv qX5_isWord 1 := ⟨⟨tw_k tw_s3 14 rfl rfl, iX5, ⟨by decide, by decide, by decide +kernel⟩, by decide⟩, tw_k tw_s3 12 rfl rfl, tw_k tw_s3 13 rfl rfl⟩
abbrev qX5_isSmallLetter : t_MI := (yX5_isSmallLetter, cX5_isSmallLetter, 1, (some .boolean))
theorem mX5_isSmallLetter : t_Ms qX5_isSmallLetter 1 := ⟨⟨tw_k tw_s2 230 rfl rfl, iX5, ⟨by decide, by decide, by decide +kernel⟩, by decide⟩, tw_k tw_s2 229 rfl rfl⟩
abbrev qX5_isDigit : t_MI := (yX5_isDigit, cX5_isDigit, 1, (some .boolean))
theorem mX5_isDigit : t_Ms qX5_isDigit 1 := ⟨⟨tw_k tw_s2 237 rfl rfl, iX5, ⟨by decide, by decide, by decide +kernel⟩, by decide⟩, tw_k tw_s2 236 rfl rfl⟩
abbrev qX6_init : t_MI := (yX6_init, cX6_init, 1, none)
theorem mX6_init : t_Mi qX6_init 0 := ⟨⟨tw_k tw_s1 142 rfl rfl, iX6, ⟨by decide, by decide, by decide +kernel⟩, by decide⟩, tw_k tw_s1 141 rfl rfl, rfl, rfl⟩
abbrev qX6_hasTold : t_MI := (yX6_hasTold, cX6_hasTold, 2, (some .boolean))
theorem mX6_hasTold : t_Mv qX6_hasTold 1 := ⟨⟨tw_k tw_s4 19 rfl rfl, iX6, ⟨by decide, by decide, by decide +kernel⟩, by decide⟩, tw_k tw_s4 17 rfl rfl, tw_k tw_s4 18 rfl rfl⟩
abbrev qX6_haveAllTold : t_MI := (yX6_haveAllTold, cX6_haveAllTold, 1, (some .boolean))
theorem mX6_haveAllTold : t_Mv qX6_haveAllTold 0 := ⟨⟨tw_k tw_s5 135 rfl rfl, iX6, ⟨by decide, by decide, by decide +kernel⟩, by decide⟩, tw_k tw_s5 133 rfl rfl, tw_k tw_s5 134 rfl rfl⟩
abbrev qX6_fewestSignals : t_MI := (yX6_fewestSignals, cX6_fewestSignals, 3, (some .int))
theorem mX6_fewestSignals : t_Mv qX6_fewestSignals 0 := ⟨⟨tw_k tw_s4 62 rfl rfl, iX6, ⟨by decide, by decide, by decide +kernel⟩, by decide⟩, tw_k tw_s4 60 rfl rfl, tw_k tw_s4 61 rfl rfl⟩
abbrev qX6_allFourAlike : t_MI := (yX6_allFourAlike, cX6_allFourAlike, 1, (some .boolean))
theorem mX6_allFourAlike : t_Mv qX6_allFourAlike 0 := ⟨⟨tw_k tw_s5 70 rfl rfl, iX6, ⟨by decide, by decide, by decide +kernel⟩, by decide⟩, tw_k tw_s5 68 rfl rfl, tw_k tw_s5 69 rfl rfl⟩
abbrev qX6_renewWave : t_MI := (yX6_renewWave, cX6_renewWave, 3, none)
theorem mX6_renewWave : t_Mv qX6_renewWave 2 := ⟨⟨tw_k tw_s5 74 rfl rfl, iX6, ⟨by decide, by decide, by decide +kernel⟩, by decide⟩, tw_k tw_s5 72 rfl rfl, tw_k tw_s5 73 rfl rfl⟩
abbrev qX6_renewRound : t_MI := (yX6_renewRound, cX6_renewRound, 1, none)
theorem mX6_renewRound : t_Mv qX6_renewRound 0 := ⟨⟨tw_k tw_s5 58 rfl rfl, iX6, ⟨by decide, by decide, by decide +kernel⟩, by decide⟩, tw_k tw_s5 56 rfl rfl, tw_k tw_s5 57 rfl rfl⟩
abbrev qX6_clear : t_MI := (yX6_clear, cX6_clear, 1, none)
theorem mX6_clear : t_Mv qX6_clear 0 := ⟨⟨tw_k tw_s2 96 rfl rfl, iX6, ⟨by decide, by decide, by decide +kernel⟩, by decide⟩, tw_k tw_s2 94 rfl rfl, tw_k tw_s2 95 rfl rfl⟩
abbrev qX6_copyFrom : t_MI := (yX6_copyFrom, cX6_copyFrom, 2, none)
theorem mX6_copyFrom : t_Mv qX6_copyFrom 1 := ⟨⟨tw_k tw_s3 139 rfl rfl, iX6, ⟨by decide, by decide, by decide +kernel⟩, by decide⟩, tw_k tw_s3 137 rfl rfl, tw_k tw_s3 138 rfl rfl⟩
abbrev qX7_init : t_MI := (yX7_init, cX7_init, 2, none)
theorem mX7_init : t_Mi qX7_init 0 := ⟨⟨tw_k tw_s1 69 rfl rfl, iX7, ⟨by decide, by decide, by decide +kernel⟩, by decide⟩, tw_k tw_s1 68 rfl rfl, rfl, rfl⟩
abbrev qX7_renew : t_MI := (yX7_renew, cX7_renew, 3, none)
theorem mX7_renew : t_Mv qX7_renew 1 := ⟨⟨tw_k tw_s2 60 rfl rfl, iX7, ⟨by decide, by decide, by decide +kernel⟩, by decide⟩, tw_k tw_s2 58 rfl rfl, tw_k tw_s2 59 rfl rfl⟩
abbrev qX7_clearWork : t_MI := (yX7_clearWork, cX7_clearWork, 2, none)
theorem mX7_clearWork : t_Mv qX7_clearWork 0 := ⟨⟨tw_k tw_s2 71 rfl rfl, iX7, ⟨by decide, by decide, by decide +kernel⟩, by decide⟩, tw_k tw_s2 69 rfl rfl, tw_k tw_s2 70 rfl rfl⟩
abbrev qX7_start : t_MI := (yX7_start, cX7_start, 3, none)
theorem mX7_start : t_Mv qX7_start 1 := ⟨⟨tw_k tw_s4 152 rfl rfl, iX7, ⟨by decide, by decide, by decide +kernel⟩, by decide⟩, tw_k tw_s4 150 rfl rfl, tw_k tw_s4 151 rfl rfl⟩
abbrev qX7_growByOne : t_MI := (yX7_growByOne, cX7_growByOne, 2, none)
theorem mX7_growByOne : t_Mv qX7_growByOne 0 := ⟨⟨tw_k tw_s4 184 rfl rfl, iX7, ⟨by decide, by decide, by decide +kernel⟩, by decide⟩, tw_k tw_s4 182 rfl rfl, tw_k tw_s4 183 rfl rfl⟩
abbrev qX7_copyFrom : t_MI := (yX7_copyFrom, cX7_copyFrom, 3, none)
theorem mX7_copyFrom : t_Mv qX7_copyFrom 1 := ⟨⟨tw_k tw_s3 108 rfl rfl, iX7, ⟨by decide, by decide, by decide +kernel⟩, by decide⟩, tw_k tw_s3 106 rfl rfl, tw_k tw_s3 107 rfl rfl⟩
abbrev qX7_pass : t_MI := (yX7_pass, cX7_pass, 2, none)
theorem mX7_pass : t_Mv qX7_pass 0 := ⟨⟨tw_k tw_s4 216 rfl rfl, iX7, ⟨by decide, by decide, by decide +kernel⟩, by decide⟩, tw_k tw_s4 214 rfl rfl, tw_k tw_s4 215 rfl rfl⟩
abbrev qX7_takeLetters : t_MI := (yX7_takeLetters, cX7_takeLetters, 4, none)
theorem mX7_takeLetters : t_Mv qX7_takeLetters 0 := ⟨⟨tw_k tw_s4 220 rfl rfl, iX7, ⟨by decide, by decide, by decide +kernel⟩, by decide⟩, tw_k tw_s4 218 rfl rfl, tw_k tw_s4 219 rfl rfl⟩
abbrev qX7_takeWork : t_MI := (yX7_takeWork, cX7_takeWork, 6, none)
theorem mX7_takeWork : t_Mv qX7_takeWork 1 := ⟨⟨tw_k tw_s4 225 rfl rfl, iX7, ⟨by decide, by decide, by decide +kernel⟩, by decide⟩, tw_k tw_s4 223 rfl rfl, tw_k tw_s4 224 rfl rfl⟩
abbrev qX7_takeSignal : t_MI := (yX7_takeSignal, cX7_takeSignal, 3, none)
theorem mX7_takeSignal : t_Mv qX7_takeSignal 1 := ⟨⟨tw_k tw_s5 21 rfl rfl, iX7, ⟨by decide, by decide, by decide +kernel⟩, by decide⟩, tw_k tw_s5 19 rfl rfl, tw_k tw_s5 20 rfl rfl⟩
abbrev qX7_workOff : t_MI := (yX7_workOff, cX7_workOff, 4, none)
theorem mX7_workOff : t_Mv qX7_workOff 1 := ⟨⟨tw_k tw_s5 29 rfl rfl, iX7, ⟨by decide, by decide, by decide +kernel⟩, by decide⟩, tw_k tw_s5 27 rfl rfl, tw_k tw_s5 28 rfl rfl⟩
abbrev qX7_sendWork : t_MI := (yX7_sendWork, cX7_sendWork, 7, none)
theorem mX7_sendWork : t_Mv qX7_sendWork 3 := ⟨⟨tw_k tw_s5 34 rfl rfl, iX7, ⟨by decide, by decide, by decide +kernel⟩, by decide⟩, tw_k tw_s5 32 rfl rfl, tw_k tw_s5 33 rfl rfl⟩
abbrev qX7_post : t_MI := (yX7_post, cX7_post, 6, (some .int))
theorem mX7_post : t_Mv qX7_post 3 := ⟨⟨tw_k tw_s4 233 rfl rfl, iX7, ⟨by decide, by decide, by decide +kernel⟩, by decide⟩, tw_k tw_s4 231 rfl rfl, tw_k tw_s4 232 rfl rfl⟩
abbrev qX7_countSignal : t_MI := (yX7_countSignal, cX7_countSignal, 2, none)
theorem mX7_countSignal : t_Mv qX7_countSignal 1 := ⟨⟨tw_k tw_s5 17 rfl rfl, iX7, ⟨by decide, by decide, by decide +kernel⟩, by decide⟩, tw_k tw_s5 15 rfl rfl, tw_k tw_s5 16 rfl rfl⟩
abbrev qX7_tendWatches : t_MI := (yX7_tendWatches, cX7_tendWatches, 2, none)
theorem mX7_tendWatches : t_Mv qX7_tendWatches 1 := ⟨⟨tw_k tw_s5 42 rfl rfl, iX7, ⟨by decide, by decide, by decide +kernel⟩, by decide⟩, tw_k tw_s5 40 rfl rfl, tw_k tw_s5 41 rfl rfl⟩
abbrev qX7_tendTree : t_MI := (yX7_tendTree, cX7_tendTree, 3, none)
theorem mX7_tendTree : t_Mv qX7_tendTree 1 := ⟨⟨tw_k tw_s5 46 rfl rfl, iX7, ⟨by decide, by decide, by decide +kernel⟩, by decide⟩, tw_k tw_s5 44 rfl rfl, tw_k tw_s5 45 rfl rfl⟩
abbrev qX7_tendToken : t_MI := (yX7_tendToken, cX7_tendToken, 3, none)
theorem mX7_tendToken : t_Mv qX7_tendToken 1 := ⟨⟨tw_k tw_s5 54 rfl rfl, iX7, ⟨by decide, by decide, by decide +kernel⟩, by decide⟩, tw_k tw_s5 52 rfl rfl, tw_k tw_s5 53 rfl rfl⟩
abbrev qX7_tendWeight : t_MI := (yX7_tendWeight, cX7_tendWeight, 4, none)
theorem mX7_tendWeight : t_Mv qX7_tendWeight 1 := ⟨⟨tw_k tw_s5 62 rfl rfl, iX7, ⟨by decide, by decide, by decide +kernel⟩, by decide⟩, tw_k tw_s5 60 rfl rfl, tw_k tw_s5 61 rfl rfl⟩
abbrev qX7_tendWaves : t_MI := (yX7_tendWaves, cX7_tendWaves, 3, none)
theorem mX7_tendWaves : t_Mv qX7_tendWaves 1 := ⟨⟨tw_k tw_s5 66 rfl rfl, iX7, ⟨by decide, by decide, by decide +kernel⟩, by decide⟩, tw_k tw_s5 64 rfl rfl, tw_k tw_s5 65 rfl rfl⟩
abbrev qX7_tellEnd : t_MI := (yX7_tellEnd, cX7_tellEnd, 2, none)
theorem mX7_tellEnd : t_Mv qX7_tellEnd 1 := ⟨⟨tw_k tw_s5 50 rfl rfl, iX7, ⟨by decide, by decide, by decide +kernel⟩, by decide⟩, tw_k tw_s5 48 rfl rfl, tw_k tw_s5 49 rfl rfl⟩
abbrev qX7_seeTruth : t_MI := (yX7_seeTruth, cX7_seeTruth, 1, none)
theorem mX7_seeTruth : t_Mv qX7_seeTruth 0 := ⟨⟨tw_k tw_s5 78 rfl rfl, iX7, ⟨by decide, by decide, by decide +kernel⟩, by decide⟩, tw_k tw_s5 76 rfl rfl, tw_k tw_s5 77 rfl rfl⟩
abbrev qX7_sleepOn : t_MI := (yX7_sleepOn, cX7_sleepOn, 2, none)
theorem mX7_sleepOn : t_Mv qX7_sleepOn 0 := ⟨⟨tw_k tw_s5 83 rfl rfl, iX7, ⟨by decide, by decide, by decide +kernel⟩, by decide⟩, tw_k tw_s5 81 rfl rfl, tw_k tw_s5 82 rfl rfl⟩
abbrev qX7_startCut : t_MI := (yX7_startCut, cX7_startCut, 2, none)
theorem mX7_startCut : t_Mv qX7_startCut 1 := ⟨⟨tw_k tw_s4 200 rfl rfl, iX7, ⟨by decide, by decide, by decide +kernel⟩, by decide⟩, tw_k tw_s4 198 rfl rfl, tw_k tw_s4 199 rfl rfl⟩
abbrev qX7_clearCut : t_MI := (yX7_clearCut, cX7_clearCut, 1, none)
theorem mX7_clearCut : t_Mv qX7_clearCut 0 := ⟨⟨tw_k tw_s2 75 rfl rfl, iX7, ⟨by decide, by decide, by decide +kernel⟩, by decide⟩, tw_k tw_s2 73 rfl rfl, tw_k tw_s2 74 rfl rfl⟩
abbrev qX7_clearRed : t_MI := (yX7_clearRed, cX7_clearRed, 2, none)
theorem mX7_clearRed : t_Mv qX7_clearRed 0 := ⟨⟨tw_k tw_s2 79 rfl rfl, iX7, ⟨by decide, by decide, by decide +kernel⟩, by decide⟩, tw_k tw_s2 77 rfl rfl, tw_k tw_s2 78 rfl rfl⟩
abbrev qX7_turnRed : t_MI := (yX7_turnRed, cX7_turnRed, 2, none)
theorem mX7_turnRed : t_Mv qX7_turnRed 1 := ⟨⟨tw_k tw_s4 204 rfl rfl, iX7, ⟨by decide, by decide, by decide +kernel⟩, by decide⟩, tw_k tw_s4 202 rfl rfl, tw_k tw_s4 203 rfl rfl⟩
abbrev qX7_isWhole : t_MI := (yX7_isWhole, cX7_isWhole, 1, (some .boolean))
theorem mX7_isWhole : t_Mv qX7_isWhole 0 := ⟨⟨tw_k tw_s4 111 rfl rfl, iX7, ⟨by decide, by decide, by decide +kernel⟩, by decide⟩, tw_k tw_s4 109 rfl rfl, tw_k tw_s4 110 rfl rfl⟩
abbrev qX7_redBits : t_MI := (yX7_redBits, cX7_redBits, 3, (some .int))
theorem mX7_redBits : t_Mv qX7_redBits 0 := ⟨⟨tw_k tw_s4 107 rfl rfl, iX7, ⟨by decide, by decide, by decide +kernel⟩, by decide⟩, tw_k tw_s4 105 rfl rfl, tw_k tw_s4 106 rfl rfl⟩
abbrev qX7_recordTogether : t_MI := (yX7_recordTogether, cX7_recordTogether, 4, (some .int))
theorem mX7_recordTogether : t_Mv qX7_recordTogether 1 := ⟨⟨tw_k tw_s4 115 rfl rfl, iX7, ⟨by decide, by decide, by decide +kernel⟩, by decide⟩, tw_k tw_s4 113 rfl rfl, tw_k tw_s4 114 rfl rfl⟩
abbrev qX7_showsEnd : t_MI := (yX7_showsEnd, cX7_showsEnd, 1, (some .boolean))
theorem mX7_showsEnd : t_Mv qX7_showsEnd 0 := ⟨⟨tw_k tw_s4 123 rfl rfl, iX7, ⟨by decide, by decide, by decide +kernel⟩, by decide⟩, tw_k tw_s4 121 rfl rfl, tw_k tw_s4 122 rfl rfl⟩
abbrev qX7_ofCut : t_MI := (yX7_ofCut, cX7_ofCut, 2, (some .int))
theorem mX7_ofCut : t_Mv qX7_ofCut 1 := ⟨⟨tw_k tw_s4 103 rfl rfl, iX7, ⟨by decide, by decide, by decide +kernel⟩, by decide⟩, tw_k tw_s4 101 rfl rfl, tw_k tw_s4 102 rfl rfl⟩
abbrev qX7_passUntilTruth : t_MI := (yX7_passUntilTruth, cX7_passUntilTruth, 2, none)
theorem mX7_passUntilTruth : t_Mv qX7_passUntilTruth 0 := ⟨⟨tw_k tw_s5 109 rfl rfl, iX7, ⟨by decide, by decide, by decide +kernel⟩, by decide⟩, tw_k tw_s5 107 rfl rfl, tw_k tw_s5 108 rfl rfl⟩
abbrev qX7_passUntilTold : t_MI := (yX7_passUntilTold, cX7_passUntilTold, 3, none)
theorem mX7_passUntilTold : t_Mv qX7_passUntilTold 1 := ⟨⟨tw_k tw_s5 119 rfl rfl, iX7, ⟨by decide, by decide, by decide +kernel⟩, by decide⟩, tw_k tw_s5 117 rfl rfl, tw_k tw_s5 118 rfl rfl⟩
abbrev qX7_passUntilWhole : t_MI := (yX7_passUntilWhole, cX7_passUntilWhole, 2, none)
theorem mX7_passUntilWhole : t_Mv qX7_passUntilWhole 0 := ⟨⟨tw_k tw_s5 127 rfl rfl, iX7, ⟨by decide, by decide, by decide +kernel⟩, by decide⟩, tw_k tw_s5 125 rfl rfl, tw_k tw_s5 126 rfl rfl⟩
abbrev qX7_isStill : t_MI := (yX7_isStill, cX7_isStill, 1, (some .boolean))
theorem mX7_isStill : t_Mv qX7_isStill 0 := ⟨⟨tw_k tw_s5 131 rfl rfl, iX7, ⟨by decide, by decide, by decide +kernel⟩, by decide⟩, tw_k tw_s5 129 rfl rfl, tw_k tw_s5 130 rfl rfl⟩
abbrev qX7_hasNode : t_MI := (yX7_hasNode, cX7_hasNode, 2, (some .boolean))
theorem mX7_hasNode : t_Mv qX7_hasNode 1 := ⟨⟨tw_k tw_s3 91 rfl rfl, iX7, ⟨by decide, by decide, by decide +kernel⟩, by decide⟩, tw_k tw_s3 89 rfl rfl, tw_k tw_s3 90 rfl rfl⟩
abbrev qX7_busyBits : t_MI := (yX7_busyBits, cX7_busyBits, 3, (some .int))
theorem mX7_busyBits : t_Mv qX7_busyBits 0 := ⟨⟨tw_k tw_s3 162 rfl rfl, iX7, ⟨by decide, by decide, by decide +kernel⟩, by decide⟩, tw_k tw_s3 160 rfl rfl, tw_k tw_s3 161 rfl rfl⟩
abbrev qX7_isWorking : t_MI := (yX7_isWorking, cX7_isWorking, 1, (some .boolean))
theorem mX7_isWorking : t_Mv qX7_isWorking 0 := ⟨⟨tw_k tw_s4 148 rfl rfl, iX7, ⟨by decide, by decide, by decide +kernel⟩, by decide⟩, tw_k tw_s4 146 rfl rfl, tw_k tw_s4 147 rfl rfl⟩
abbrev qX7_overall : t_MI := (yX7_overall, cX7_overall, 2, (some .int))
theorem mX7_overall : t_Mv qX7_overall 1 := ⟨⟨tw_k tw_s3 158 rfl rfl, iX7, ⟨by decide, by decide, by decide +kernel⟩, by decide⟩, tw_k tw_s3 156 rfl rfl, tw_k tw_s3 157 rfl rfl⟩
abbrev qX7_ofNode : t_MI := (yX7_ofNode, cX7_ofNode, 4, (some .int))
theorem mX7_ofNode : t_Mv qX7_ofNode 2 := ⟨⟨tw_k tw_s3 173 rfl rfl, iX7, ⟨by decide, by decide, by decide +kernel⟩, by decide⟩, tw_k tw_s3 171 rfl rfl, tw_k tw_s3 172 rfl rfl⟩
abbrev qX7_together : t_MI := (yX7_together, cX7_together, 4, (some .int))
theorem mX7_together : t_Mv qX7_together 1 := ⟨⟨tw_k tw_s3 169 rfl rfl, iX7, ⟨by decide, by decide, by decide +kernel⟩, by decide⟩, tw_k tw_s3 167 rfl rfl, tw_k tw_s3 168 rfl rfl⟩
abbrev qX7_childBits : t_MI := (yX7_childBits, cX7_childBits, 4, (some .int))
theorem mX7_childBits : t_Mv qX7_childBits 1 := ⟨⟨tw_k tw_s3 177 rfl rfl, iX7, ⟨by decide, by decide, by decide +kernel⟩, by decide⟩, tw_k tw_s3 175 rfl rfl, tw_k tw_s3 176 rfl rfl⟩
abbrev qX7_ofWatch : t_MI := (yX7_ofWatch, cX7_ofWatch, 3, (some .int))
theorem mX7_ofWatch : t_Mv qX7_ofWatch 2 := ⟨⟨tw_k tw_s3 229 rfl rfl, iX7, ⟨by decide, by decide, by decide +kernel⟩, by decide⟩, tw_k tw_s3 227 rfl rfl, tw_k tw_s3 228 rfl rfl⟩
abbrev qX7_ofTree : t_MI := (yX7_ofTree, cX7_ofTree, 2, (some .int))
theorem mX7_ofTree : t_Mv qX7_ofTree 1 := ⟨⟨tw_k tw_s3 233 rfl rfl, iX7, ⟨by decide, by decide, by decide +kernel⟩, by decide⟩, tw_k tw_s3 231 rfl rfl, tw_k tw_s3 232 rfl rfl⟩
abbrev qX7_ofToken : t_MI := (yX7_ofToken, cX7_ofToken, 2, (some .int))
theorem mX7_ofToken : t_Mv qX7_ofToken 1 := ⟨⟨tw_k tw_s4 3 rfl rfl, iX7, ⟨by decide, by decide, by decide +kernel⟩, by decide⟩, tw_k tw_s4 1 rfl rfl, tw_k tw_s4 2 rfl rfl⟩
abbrev qX7_ofWeight : t_MI := (yX7_ofWeight, cX7_ofWeight, 2, (some .int))
theorem mX7_ofWeight : t_Mv qX7_ofWeight 1 := ⟨⟨tw_k tw_s4 7 rfl rfl, iX7, ⟨by decide, by decide, by decide +kernel⟩, by decide⟩, tw_k tw_s4 5 rfl rfl, tw_k tw_s4 6 rfl rfl⟩
abbrev qX7_ofWaves : t_MI := (yX7_ofWaves, cX7_ofWaves, 2, (some .int))
theorem mX7_ofWaves : t_Mv qX7_ofWaves 1 := ⟨⟨tw_k tw_s4 11 rfl rfl, iX7, ⟨by decide, by decide, by decide +kernel⟩, by decide⟩, tw_k tw_s4 9 rfl rfl, tw_k tw_s4 10 rfl rfl⟩
abbrev qX7_treeSize : t_MI := (yX7_treeSize, cX7_treeSize, 3, (some .int))
theorem mX7_treeSize : t_Mv qX7_treeSize 0 := ⟨⟨tw_k tw_s5 87 rfl rfl, iX7, ⟨by decide, by decide, by decide +kernel⟩, by decide⟩, tw_k tw_s5 85 rfl rfl, tw_k tw_s5 86 rfl rfl⟩
abbrev qX7_treeDepth : t_MI := (yX7_treeDepth, cX7_treeDepth, 5, (some .int))
theorem mX7_treeDepth : t_Mv qX7_treeDepth 0 := ⟨⟨tw_k tw_s3 237 rfl rfl, iX7, ⟨by decide, by decide, by decide +kernel⟩, by decide⟩, tw_k tw_s3 235 rfl rfl, tw_k tw_s3 236 rfl rfl⟩
abbrev qX7_weighed : t_MI := (yX7_weighed, cX7_weighed, 2, (some .int))
theorem mX7_weighed : t_Mv qX7_weighed 1 := ⟨⟨tw_k tw_s4 71 rfl rfl, iX7, ⟨by decide, by decide, by decide +kernel⟩, by decide⟩, tw_k tw_s4 69 rfl rfl, tw_k tw_s4 70 rfl rfl⟩
abbrev qX7_hasLastLetter : t_MI := (yX7_hasLastLetter, cX7_hasLastLetter, 1, (some .boolean))
theorem mX7_hasLastLetter : t_Mv qX7_hasLastLetter 0 := ⟨⟨tw_k tw_s4 83 rfl rfl, iX7, ⟨by decide, by decide, by decide +kernel⟩, by decide⟩, tw_k tw_s4 81 rfl rfl, tw_k tw_s4 82 rfl rfl⟩
abbrev qX7_ofLastLetter : t_MI := (yX7_ofLastLetter, cX7_ofLastLetter, 3, (some .int))
theorem mX7_ofLastLetter : t_Mv qX7_ofLastLetter 1 := ⟨⟨tw_k tw_s4 87 rfl rfl, iX7, ⟨by decide, by decide, by decide +kernel⟩, by decide⟩, tw_k tw_s4 85 rfl rfl, tw_k tw_s4 86 rfl rfl⟩
abbrev qX7_lagOf : t_MI := (yX7_lagOf, cX7_lagOf, 2, (some .int))
theorem mX7_lagOf : t_Mv qX7_lagOf 1 := ⟨⟨tw_k tw_s4 23 rfl rfl, iX7, ⟨by decide, by decide, by decide +kernel⟩, by decide⟩, tw_k tw_s4 21 rfl rfl, tw_k tw_s4 22 rfl rfl⟩
abbrev qX7_leastLate : t_MI := (yX7_leastLate, cX7_leastLate, 3, (some .int))
theorem mX7_leastLate : t_Mv qX7_leastLate 0 := ⟨⟨tw_k tw_s4 56 rfl rfl, iX7, ⟨by decide, by decide, by decide +kernel⟩, by decide⟩, tw_k tw_s4 54 rfl rfl, tw_k tw_s4 55 rfl rfl⟩
abbrev qX7_boundOf : t_MI := (yX7_boundOf, cX7_boundOf, 2, (some .int))
theorem mX7_boundOf : t_Mv qX7_boundOf 1 := ⟨⟨tw_k tw_s4 31 rfl rfl, iX7, ⟨by decide, by decide, by decide +kernel⟩, by decide⟩, tw_k tw_s4 29 rfl rfl, tw_k tw_s4 30 rfl rfl⟩
abbrev qX7_greatestWire : t_MI := (yX7_greatestWire, cX7_greatestWire, 4, (some .int))
theorem mX7_greatestWire : t_Mv qX7_greatestWire 0 := ⟨⟨tw_k tw_s4 35 rfl rfl, iX7, ⟨by decide, by decide, by decide +kernel⟩, by decide⟩, tw_k tw_s4 33 rfl rfl, tw_k tw_s4 34 rfl rfl⟩
abbrev qX7_greatestWireToRoot : t_MI := (yX7_greatestWireToRoot, cX7_greatestWireToRoot, 3, (some .int))
theorem mX7_greatestWireToRoot : t_Mv qX7_greatestWireToRoot 0 := ⟨⟨tw_k tw_s4 40 rfl rfl, iX7, ⟨by decide, by decide, by decide +kernel⟩, by decide⟩, tw_k tw_s4 38 rfl rfl, tw_k tw_s4 39 rfl rfl⟩
abbrev qX7_wiresDownwards : t_MI := (yX7_wiresDownwards, cX7_wiresDownwards, 3, (some .int))
theorem mX7_wiresDownwards : t_Mv qX7_wiresDownwards 0 := ⟨⟨tw_k tw_s4 44 rfl rfl, iX7, ⟨by decide, by decide, by decide +kernel⟩, by decide⟩, tw_k tw_s4 42 rfl rfl, tw_k tw_s4 43 rfl rfl⟩
abbrev qX7_wiresUpwards : t_MI := (yX7_wiresUpwards, cX7_wiresUpwards, 3, (some .int))
theorem mX7_wiresUpwards : t_Mv qX7_wiresUpwards 0 := ⟨⟨tw_k tw_s4 48 rfl rfl, iX7, ⟨by decide, by decide, by decide +kernel⟩, by decide⟩, tw_k tw_s4 46 rfl rfl, tw_k tw_s4 47 rfl rfl⟩
abbrev qX8_init : t_MI := (yX8_init, cX8_init, 2, none)
theorem mX8_init : t_Mi qX8_init 0 := ⟨⟨tw_k tw_s1 23 rfl rfl, iX8, ⟨by decide, by decide, by decide +kernel⟩, by decide⟩, tw_k tw_s1 22 rfl rfl, rfl, rfl⟩
abbrev qX8_status : t_MI := (yX8_status, cX8_status, 1, (some .int))
theorem mX8_status : t_Mv qX8_status 0 := ⟨⟨tw_k tw_s2 189 rfl rfl, iX8, ⟨by decide, by decide, by decide +kernel⟩, by decide⟩, tw_k tw_s2 187 rfl rfl, tw_k tw_s2 188 rfl rfl⟩
abbrev qX8_feed : t_MI := (yX8_feed, cX8_feed, 6, (some .int))
theorem mX8_feed : t_Mv qX8_feed 5 := ⟨⟨tw_k tw_s2 193 rfl rfl, iX8, ⟨by decide, by decide, by decide +kernel⟩, by decide⟩, tw_k tw_s2 191 rfl rfl, tw_k tw_s2 192 rfl rfl⟩
abbrev qX8_load : t_MI := (yX8_load, cX8_load, 2, (some .int))
theorem mX8_load : t_Mv qX8_load 1 := ⟨⟨tw_k tw_s2 205 rfl rfl, iX8, ⟨by decide, by decide, by decide +kernel⟩, by decide⟩, tw_k tw_s2 203 rfl rfl, tw_k tw_s2 204 rfl rfl⟩
abbrev qX8_fault : t_MI := (yX8_fault, cX8_fault, 2, (some .int))
theorem mX8_fault : t_Mv qX8_fault 1 := ⟨⟨tw_k tw_s3 149 rfl rfl, iX8, ⟨by decide, by decide, by decide +kernel⟩, by decide⟩, tw_k tw_s3 147 rfl rfl, tw_k tw_s3 148 rfl rfl⟩
abbrev qX8_many : t_MI := (yX8_many, cX8_many, 2, (some .int))
theorem mX8_many : t_Mv qX8_many 1 := ⟨⟨tw_k tw_s3 153 rfl rfl, iX8, ⟨by decide, by decide, by decide +kernel⟩, by decide⟩, tw_k tw_s3 151 rfl rfl, tw_k tw_s3 152 rfl rfl⟩
abbrev qX8_node : t_MI := (yX8_node, cX8_node, 3, (some .int))
theorem mX8_node : t_Mv qX8_node 2 := ⟨⟨tw_k tw_s3 194 rfl rfl, iX8, ⟨by decide, by decide, by decide +kernel⟩, by decide⟩, tw_k tw_s3 192 rfl rfl, tw_k tw_s3 193 rfl rfl⟩
abbrev qX8_wire : t_MI := (yX8_wire, cX8_wire, 4, (some .int))
theorem mX8_wire : t_Mv qX8_wire 2 := ⟨⟨tw_k tw_s3 200 rfl rfl, iX8, ⟨by decide, by decide, by decide +kernel⟩, by decide⟩, tw_k tw_s3 198 rfl rfl, tw_k tw_s3 199 rfl rfl⟩
abbrev qX8_row : t_MI := (yX8_row, cX8_row, 3, (some .int))
theorem mX8_row : t_Mv qX8_row 2 := ⟨⟨tw_k tw_s3 209 rfl rfl, iX8, ⟨by decide, by decide, by decide +kernel⟩, by decide⟩, tw_k tw_s3 207 rfl rfl, tw_k tw_s3 208 rfl rfl⟩
abbrev qX8_letter : t_MI := (yX8_letter, cX8_letter, 4, (some .int))
theorem mX8_letter : t_Mv qX8_letter 2 := ⟨⟨tw_k tw_s3 217 rfl rfl, iX8, ⟨by decide, by decide, by decide +kernel⟩, by decide⟩, tw_k tw_s3 215 rfl rfl, tw_k tw_s3 216 rfl rfl⟩
abbrev qX8_watch : t_MI := (yX8_watch, cX8_watch, 3, (some .int))
theorem mX8_watch : t_Mv qX8_watch 2 := ⟨⟨tw_k tw_s3 222 rfl rfl, iX8, ⟨by decide, by decide, by decide +kernel⟩, by decide⟩, tw_k tw_s3 220 rfl rfl, tw_k tw_s3 221 rfl rfl⟩
abbrev qX8_lag : t_MI := (yX8_lag, cX8_lag, 2, (some .int))
theorem mX8_lag : t_Mv qX8_lag 1 := ⟨⟨tw_k tw_s4 15 rfl rfl, iX8, ⟨by decide, by decide, by decide +kernel⟩, by decide⟩, tw_k tw_s4 13 rfl rfl, tw_k tw_s4 14 rfl rfl⟩
abbrev qX8_bound : t_MI := (yX8_bound, cX8_bound, 2, (some .int))
theorem mX8_bound : t_Mv qX8_bound 1 := ⟨⟨tw_k tw_s4 27 rfl rfl, iX8, ⟨by decide, by decide, by decide +kernel⟩, by decide⟩, tw_k tw_s4 25 rfl rfl, tw_k tw_s4 26 rfl rfl⟩
abbrev qX8_best : t_MI := (yX8_best, cX8_best, 3, (some .int))
theorem mX8_best : t_Mv qX8_best 1 := ⟨⟨tw_k tw_s4 52 rfl rfl, iX8, ⟨by decide, by decide, by decide +kernel⟩, by decide⟩, tw_k tw_s4 50 rfl rfl, tw_k tw_s4 51 rfl rfl⟩
abbrev qX8_weights : t_MI := (yX8_weights, cX8_weights, 2, (some .int))
theorem mX8_weights : t_Mv qX8_weights 1 := ⟨⟨tw_k tw_s4 67 rfl rfl, iX8, ⟨by decide, by decide, by decide +kernel⟩, by decide⟩, tw_k tw_s4 65 rfl rfl, tw_k tw_s4 66 rfl rfl⟩
abbrev qX8_last : t_MI := (yX8_last, cX8_last, 2, (some .int))
theorem mX8_last : t_Mv qX8_last 1 := ⟨⟨tw_k tw_s4 79 rfl rfl, iX8, ⟨by decide, by decide, by decide +kernel⟩, by decide⟩, tw_k tw_s4 77 rfl rfl, tw_k tw_s4 78 rfl rfl⟩
abbrev qX8_ledger : t_MI := (yX8_ledger, cX8_ledger, 5, (some .int))
theorem mX8_ledger : t_Mv qX8_ledger 3 := ⟨⟨tw_k tw_s4 91 rfl rfl, iX8, ⟨by decide, by decide, by decide +kernel⟩, by decide⟩, tw_k tw_s4 89 rfl rfl, tw_k tw_s4 90 rfl rfl⟩
abbrev qX8_cutting : t_MI := (yX8_cutting, cX8_cutting, 2, (some .int))
theorem mX8_cutting : t_Mv qX8_cutting 1 := ⟨⟨tw_k tw_s4 99 rfl rfl, iX8, ⟨by decide, by decide, by decide +kernel⟩, by decide⟩, tw_k tw_s4 97 rfl rfl, tw_k tw_s4 98 rfl rfl⟩
abbrev qX8_recorded : t_MI := (yX8_recorded, cX8_recorded, 3, (some .int))
theorem mX8_recorded : t_Mv qX8_recorded 2 := ⟨⟨tw_k tw_s4 127 rfl rfl, iX8, ⟨by decide, by decide, by decide +kernel⟩, by decide⟩, tw_k tw_s4 125 rfl rfl, tw_k tw_s4 126 rfl rfl⟩
abbrev qX8_event : t_MI := (yX8_event, cX8_event, 3, (some .int))
theorem mX8_event : t_Mv qX8_event 2 := ⟨⟨tw_k tw_s4 132 rfl rfl, iX8, ⟨by decide, by decide, by decide +kernel⟩, by decide⟩, tw_k tw_s4 130 rfl rfl, tw_k tw_s4 131 rfl rfl⟩
abbrev qX8_begin : t_MI := (yX8_begin, cX8_begin, 3, (some .int))
theorem mX8_begin : t_Mv qX8_begin 1 := ⟨⟨tw_k tw_s4 140 rfl rfl, iX8, ⟨by decide, by decide, by decide +kernel⟩, by decide⟩, tw_k tw_s4 138 rfl rfl, tw_k tw_s4 139 rfl rfl⟩
abbrev qX8_plan : t_MI := (yX8_plan, cX8_plan, 5, (some .int))
theorem mX8_plan : t_Mv qX8_plan 4 := ⟨⟨tw_k tw_s4 162 rfl rfl, iX8, ⟨by decide, by decide, by decide +kernel⟩, by decide⟩, tw_k tw_s4 160 rfl rfl, tw_k tw_s4 161 rfl rfl⟩
abbrev qX8_drop : t_MI := (yX8_drop, cX8_drop, 2, (some .int))
theorem mX8_drop : t_Mv qX8_drop 1 := ⟨⟨tw_k tw_s4 167 rfl rfl, iX8, ⟨by decide, by decide, by decide +kernel⟩, by decide⟩, tw_k tw_s4 165 rfl rfl, tw_k tw_s4 166 rfl rfl⟩
abbrev qX8_wires : t_MI := (yX8_wires, cX8_wires, 7, (some .int))
theorem mX8_wires : t_Mv qX8_wires 3 := ⟨⟨tw_k tw_s4 175 rfl rfl, iX8, ⟨by decide, by decide, by decide +kernel⟩, by decide⟩, tw_k tw_s4 173 rfl rfl, tw_k tw_s4 174 rfl rfl⟩
abbrev qX8_add : t_MI := (yX8_add, cX8_add, 1, (some .int))
theorem mX8_add : t_Mv qX8_add 0 := ⟨⟨tw_k tw_s4 179 rfl rfl, iX8, ⟨by decide, by decide, by decide +kernel⟩, by decide⟩, tw_k tw_s4 177 rfl rfl, tw_k tw_s4 178 rfl rfl⟩
abbrev qX8_sleep : t_MI := (yX8_sleep, cX8_sleep, 4, (some .int))
theorem mX8_sleep : t_Mv qX8_sleep 2 := ⟨⟨tw_k tw_s4 188 rfl rfl, iX8, ⟨by decide, by decide, by decide +kernel⟩, by decide⟩, tw_k tw_s4 186 rfl rfl, tw_k tw_s4 187 rfl rfl⟩
abbrev qX8_cut : t_MI := (yX8_cut, cX8_cut, 3, (some .int))
theorem mX8_cut : t_Mv qX8_cut 1 := ⟨⟨tw_k tw_s4 192 rfl rfl, iX8, ⟨by decide, by decide, by decide +kernel⟩, by decide⟩, tw_k tw_s4 190 rfl rfl, tw_k tw_s4 191 rfl rfl⟩
abbrev qX8_tick : t_MI := (yX8_tick, cX8_tick, 3, (some .int))
theorem mX8_tick : t_Mv qX8_tick 1 := ⟨⟨tw_k tw_s4 212 rfl rfl, iX8, ⟨by decide, by decide, by decide +kernel⟩, by decide⟩, tw_k tw_s4 210 rfl rfl, tw_k tw_s4 211 rfl rfl⟩
abbrev qX8_mark : t_MI := (yX8_mark, cX8_mark, 1, (some .int))
theorem mX8_mark : t_Mv qX8_mark 0 := ⟨⟨tw_k tw_s5 97 rfl rfl, iX8, ⟨by decide, by decide, by decide +kernel⟩, by decide⟩, tw_k tw_s5 95 rfl rfl, tw_k tw_s5 96 rfl rfl⟩
abbrev qX8_back : t_MI := (yX8_back, cX8_back, 1, (some .int))
theorem mX8_back : t_Mv qX8_back 0 := ⟨⟨tw_k tw_s5 101 rfl rfl, iX8, ⟨by decide, by decide, by decide +kernel⟩, by decide⟩, tw_k tw_s5 99 rfl rfl, tw_k tw_s5 100 rfl rfl⟩
abbrev qX8_ends : t_MI := (yX8_ends, cX8_ends, 1, (some .int))
theorem mX8_ends : t_Mv qX8_ends 0 := ⟨⟨tw_k tw_s5 105 rfl rfl, iX8, ⟨by decide, by decide, by decide +kernel⟩, by decide⟩, tw_k tw_s5 103 rfl rfl, tw_k tw_s5 104 rfl rfl⟩
abbrev qX8_tells : t_MI := (yX8_tells, cX8_tells, 2, (some .int))
theorem mX8_tells : t_Mv qX8_tells 1 := ⟨⟨tw_k tw_s5 115 rfl rfl, iX8, ⟨by decide, by decide, by decide +kernel⟩, by decide⟩, tw_k tw_s5 113 rfl rfl, tw_k tw_s5 114 rfl rfl⟩
abbrev qX8_whole : t_MI := (yX8_whole, cX8_whole, 3, (some .int))
theorem mX8_whole : t_Mv qX8_whole 1 := ⟨⟨tw_k tw_s5 123 rfl rfl, iX8, ⟨by decide, by decide, by decide +kernel⟩, by decide⟩, tw_k tw_s5 121 rfl rfl, tw_k tw_s5 122 rfl rfl⟩
abbrev qX8_would : t_MI := (yX8_would, cX8_would, 5, (some .int))
theorem mX8_would : t_Mv qX8_would 3 := ⟨⟨tw_k tw_s5 140 rfl rfl, iX8, ⟨by decide, by decide, by decide +kernel⟩, by decide⟩, tw_k tw_s5 138 rfl rfl, tw_k tw_s5 139 rfl rfl⟩
abbrev qX8_with : t_MI := (yX8_with, cX8_with, 7, (some .int))
theorem mX8_with : t_Mv qX8_with 5 := ⟨⟨tw_k tw_s5 148 rfl rfl, iX8, ⟨by decide, by decide, by decide +kernel⟩, by decide⟩, tw_k tw_s5 146 rfl rfl, tw_k tw_s5 147 rfl rfl⟩
abbrev qX8_margin : t_MI := (yX8_margin, cX8_margin, 4, (some .int))
theorem mX8_margin : t_Mv qX8_margin 2 := ⟨⟨tw_k tw_s5 152 rfl rfl, iX8, ⟨by decide, by decide, by decide +kernel⟩, by decide⟩, tw_k tw_s5 150 rfl rfl, tw_k tw_s5 151 rfl rfl⟩
abbrev qX8_quickest : t_MI := (yX8_quickest, cX8_quickest, 4, (some .int))
theorem mX8_quickest : t_Mv qX8_quickest 1 := ⟨⟨tw_k tw_s5 156 rfl rfl, iX8, ⟨by decide, by decide, by decide +kernel⟩, by decide⟩, tw_k tw_s5 154 rfl rfl, tw_k tw_s5 155 rfl rfl⟩
abbrev qX8_enough : t_MI := (yX8_enough, cX8_enough, 1, (some .int))
theorem mX8_enough : t_Mv qX8_enough 0 := ⟨⟨tw_k tw_s5 160 rfl rfl, iX8, ⟨by decide, by decide, by decide +kernel⟩, by decide⟩, tw_k tw_s5 158 rfl rfl, tw_k tw_s5 159 rfl rfl⟩
abbrev qX8_answer : t_MI := (yX8_answer, cX8_answer, 2, (some .int))
theorem mX8_answer : t_Mv qX8_answer 1 := ⟨⟨tw_k tw_s3 144 rfl rfl, iX8, ⟨by decide, by decide, by decide +kernel⟩, by decide⟩, tw_k tw_s3 143 rfl rfl, tw_pv 1 rfl rfl⟩
abbrev qX8_refuse : t_MI := (yX8_refuse, cX8_refuse, 2, (some .int))
theorem mX8_refuse : t_Mv qX8_refuse 1 := ⟨⟨tw_k tw_s2 209 rfl rfl, iX8, ⟨by decide, by decide, by decide +kernel⟩, by decide⟩, tw_k tw_s2 208 rfl rfl, tw_pv 0 rfl rfl⟩
abbrev qX8_pairStatus : t_MI := (yX8_pairStatus, cX8_pairStatus, 3, (some .int))
theorem mX8_pairStatus : t_Mv qX8_pairStatus 2 := ⟨⟨tw_k tw_s3 204 rfl rfl, iX8, ⟨by decide, by decide, by decide +kernel⟩, by decide⟩, tw_k tw_s3 203 rfl rfl, tw_pv 2 rfl rfl⟩
abbrev qX8_startStatus : t_MI := (yX8_startStatus, cX8_startStatus, 3, (some .int))
theorem mX8_startStatus : t_Mv qX8_startStatus 2 := ⟨⟨tw_k tw_s4 144 rfl rfl, iX8, ⟨by decide, by decide, by decide +kernel⟩, by decide⟩, tw_k tw_s4 143 rfl rfl, tw_pv 3 rfl rfl⟩
abbrev qX8_cutStatus : t_MI := (yX8_cutStatus, cX8_cutStatus, 2, (some .int))
theorem mX8_cutStatus : t_Mv qX8_cutStatus 1 := ⟨⟨tw_k tw_s4 196 rfl rfl, iX8, ⟨by decide, by decide, by decide +kernel⟩, by decide⟩, tw_k tw_s4 195 rfl rfl, tw_pv 4 rfl rfl⟩
abbrev qX8_startOnPaper : t_MI := (yX8_startOnPaper, cX8_startOnPaper, 2, none)
theorem mX8_startOnPaper : t_Mv qX8_startOnPaper 1 := ⟨⟨tw_k tw_s5 144 rfl rfl, iX8, ⟨by decide, by decide, by decide +kernel⟩, by decide⟩, tw_k tw_s5 143 rfl rfl, tw_pv 5 rfl rfl⟩
abbrev qX8_isWithin : t_MI := (yX8_isWithin, cX8_isWithin, 3, (some .boolean))
theorem mX8_isWithin : t_Ms qX8_isWithin 3 := ⟨⟨tw_k tw_s3 69 rfl rfl, iX8, ⟨by decide, by decide, by decide +kernel⟩, by decide⟩, tw_k tw_s3 68 rfl rfl⟩
abbrev qX8_isWatch : t_MI := (yX8_isWatch, cX8_isWatch, 1, (some .boolean))
theorem mX8_isWatch : t_Ms qX8_isWatch 1 := ⟨⟨tw_k tw_s3 225 rfl rfl, iX8, ⟨by decide, by decide, by decide +kernel⟩, by decide⟩, tw_k tw_s3 224 rfl rfl⟩
abbrev qX8_wireOf : t_MI := (yX8_wireOf, cX8_wireOf, 2, (some .int))
theorem mX8_wireOf : t_Ms qX8_wireOf 2 := ⟨⟨tw_k tw_s3 94 rfl rfl, iX8, ⟨by decide, by decide, by decide +kernel⟩, by decide⟩, tw_k tw_s3 93 rfl rfl⟩
abbrev qX8_flag : t_MI := (yX8_flag, cX8_flag, 1, (some .int))
theorem mX8_flag : t_Ms qX8_flag 1 := ⟨⟨tw_k tw_s3 165 rfl rfl, iX8, ⟨by decide, by decide, by decide +kernel⟩, by decide⟩, tw_k tw_s3 164 rfl rfl⟩
abbrev qX9_init : t_MI := (yX9_init, cX9_init, 1, none)
theorem mX9_init : t_Mi qX9_init 0 := ⟨⟨tw_k tw_s5 181 rfl rfl, iX9, ⟨by decide, by decide, by decide +kernel⟩, by decide⟩, tw_k tw_s5 180 rfl rfl, rfl, rfl⟩
abbrev qX9_status : t_MI := (yX9_status, cX9_status, 1, (some .int))
theorem mX9_status : t_Mv qX9_status 0 := ⟨⟨tw_k tw_s6 8 rfl rfl, iX9, ⟨by decide, by decide, by decide +kernel⟩, by decide⟩, tw_k tw_s6 6 rfl rfl, tw_k tw_s6 7 rfl rfl⟩
abbrev qX9_refuse : t_MI := (yX9_refuse, cX9_refuse, 2, (some .int))
theorem mX9_refuse : t_Mv qX9_refuse 1 := ⟨⟨tw_k tw_s6 27 rfl rfl, iX9, ⟨by decide, by decide, by decide +kernel⟩, by decide⟩, tw_k tw_s6 26 rfl rfl, tw_pv 8 rfl rfl⟩
abbrev qX9_isIn : t_MI := (yX9_isIn, cX9_isIn, 3, (some .boolean))
theorem mX9_isIn : t_Ms qX9_isIn 3 := ⟨⟨tw_k tw_s6 23 rfl rfl, iX9, ⟨by decide, by decide, by decide +kernel⟩, by decide⟩, tw_k tw_s6 22 rfl rfl⟩
abbrev qX9_clears : t_MI := (yX9_clears, cX9_clears, 3, none)
theorem mX9_clears : t_Mv qX9_clears 1 := ⟨⟨tw_k tw_s5 186 rfl rfl, iX9, ⟨by decide, by decide, by decide +kernel⟩, by decide⟩, tw_k tw_s5 185 rfl rfl, tw_pv 6 rfl rfl⟩
abbrev qX9_of : t_MI := (yX9_of, cX9_of, 3, (some .int))
theorem mX9_of : t_Mv qX9_of 2 := ⟨⟨tw_k tw_s6 101 rfl rfl, iX9, ⟨by decide, by decide, by decide +kernel⟩, by decide⟩, tw_k tw_s6 100 rfl rfl, tw_pv 23 rfl rfl⟩
abbrev qX9_sets : t_MI := (yX9_sets, cX9_sets, 4, none)
theorem mX9_sets : t_Mv qX9_sets 3 := ⟨⟨tw_k tw_s6 229 rfl rfl, iX9, ⟨by decide, by decide, by decide +kernel⟩, by decide⟩, tw_k tw_s6 228 rfl rfl, tw_pv 40 rfl rfl⟩
abbrev qX9_adds : t_MI := (yX9_adds, cX9_adds, 4, none)
theorem mX9_adds : t_Mv qX9_adds 3 := ⟨⟨tw_k tw_s7 58 rfl rfl, iX9, ⟨by decide, by decide, by decide +kernel⟩, by decide⟩, tw_k tw_s7 57 rfl rfl, tw_pv 50 rfl rfl⟩
abbrev qX9_isNode : t_MI := (yX9_isNode, cX9_isNode, 2, (some .boolean))
theorem mX9_isNode : t_Mv qX9_isNode 1 := ⟨⟨tw_k tw_s6 121 rfl rfl, iX9, ⟨by decide, by decide, by decide +kernel⟩, by decide⟩, tw_k tw_s6 120 rfl rfl, tw_pv 27 rfl rfl⟩
abbrev qX9_isIdle : t_MI := (yX9_isIdle, cX9_isIdle, 2, (some .boolean))
theorem mX9_isIdle : t_Mv qX9_isIdle 1 := ⟨⟨tw_k tw_s6 97 rfl rfl, iX9, ⟨by decide, by decide, by decide +kernel⟩, by decide⟩, tw_k tw_s6 96 rfl rfl, tw_pv 22 rfl rfl⟩
abbrev qX9_letterOf : t_MI := (yX9_letterOf, cX9_letterOf, 3, (some .int))
theorem mX9_letterOf : t_Mv qX9_letterOf 2 := ⟨⟨tw_k tw_s6 113 rfl rfl, iX9, ⟨by decide, by decide, by decide +kernel⟩, by decide⟩, tw_k tw_s6 112 rfl rfl, tw_pv 26 rfl rfl⟩
abbrev qX9_tellsOf : t_MI := (yX9_tellsOf, cX9_tellsOf, 5, none)
theorem mX9_tellsOf : t_Mv qX9_tellsOf 2 := ⟨⟨tw_k tw_s6 234 rfl rfl, iX9, ⟨by decide, by decide, by decide +kernel⟩, by decide⟩, tw_k tw_s6 233 rfl rfl, tw_pv 41 rfl rfl⟩
abbrev qX9_told : t_MI := (yX9_told, cX9_told, 2, none)
theorem mX9_told : t_Mv qX9_told 1 := ⟨⟨tw_k tw_s7 86 rfl rfl, iX9, ⟨by decide, by decide, by decide +kernel⟩, by decide⟩, tw_k tw_s7 85 rfl rfl, tw_pv 57 rfl rfl⟩
abbrev qX9_hasTold : t_MI := (yX9_hasTold, cX9_hasTold, 2, (some .boolean))
theorem mX9_hasTold : t_Mv qX9_hasTold 1 := ⟨⟨tw_k tw_s6 161 rfl rfl, iX9, ⟨by decide, by decide, by decide +kernel⟩, by decide⟩, tw_k tw_s6 160 rfl rfl, tw_pv 32 rfl rfl⟩
abbrev qX9_posts : t_MI := (yX9_posts, cX9_posts, 7, (some .int))
theorem mX9_posts : t_Mv qX9_posts 3 := ⟨⟨tw_k tw_s7 66 rfl rfl, iX9, ⟨by decide, by decide, by decide +kernel⟩, by decide⟩, tw_k tw_s7 65 rfl rfl, tw_pv 52 rfl rfl⟩
abbrev qX9_signals : t_MI := (yX9_signals, cX9_signals, 5, none)
theorem mX9_signals : t_Mv qX9_signals 4 := ⟨⟨tw_k tw_s7 62 rfl rfl, iX9, ⟨by decide, by decide, by decide +kernel⟩, by decide⟩, tw_k tw_s7 61 rfl rfl, tw_pv 51 rfl rfl⟩
abbrev qX9_sendsWork : t_MI := (yX9_sendsWork, cX9_sendsWork, 6, none)
theorem mX9_sendsWork : t_Mv qX9_sendsWork 3 := ⟨⟨tw_k tw_s7 74 rfl rfl, iX9, ⟨by decide, by decide, by decide +kernel⟩, by decide⟩, tw_k tw_s7 73 rfl rfl, tw_pv 54 rfl rfl⟩
abbrev qX9_isAllRed : t_MI := (yX9_isAllRed, cX9_isAllRed, 2, (some .boolean))
theorem mX9_isAllRed : t_Mv qX9_isAllRed 0 := ⟨⟨tw_k tw_s7 34 rfl rfl, iX9, ⟨by decide, by decide, by decide +kernel⟩, by decide⟩, tw_k tw_s7 33 rfl rfl, tw_pv 45 rfl rfl⟩
abbrev qX9_reddens : t_MI := (yX9_reddens, cX9_reddens, 2, none)
theorem mX9_reddens : t_Mv qX9_reddens 1 := ⟨⟨tw_k tw_s7 30 rfl rfl, iX9, ⟨by decide, by decide, by decide +kernel⟩, by decide⟩, tw_k tw_s7 29 rfl rfl, tw_pv 44 rfl rfl⟩
abbrev qX9_whitens : t_MI := (yX9_whitens, cX9_whitens, 2, none)
theorem mX9_whitens : t_Mv qX9_whitens 0 := ⟨⟨tw_k tw_s7 14 rfl rfl, iX9, ⟨by decide, by decide, by decide +kernel⟩, by decide⟩, tw_k tw_s7 13 rfl rfl, tw_pv 42 rfl rfl⟩
abbrev qX9_begins : t_MI := (yX9_begins, cX9_begins, 2, none)
theorem mX9_begins : t_Mv qX9_begins 1 := ⟨⟨tw_k tw_s7 26 rfl rfl, iX9, ⟨by decide, by decide, by decide +kernel⟩, by decide⟩, tw_k tw_s7 25 rfl rfl, tw_pv 43 rfl rfl⟩
abbrev qX9_comesWork : t_MI := (yX9_comesWork, cX9_comesWork, 3, none)
theorem mX9_comesWork : t_Mv qX9_comesWork 2 := ⟨⟨tw_k tw_s7 54 rfl rfl, iX9, ⟨by decide, by decide, by decide +kernel⟩, by decide⟩, tw_k tw_s7 53 rfl rfl, tw_pv 49 rfl rfl⟩
abbrev qX9_comes : t_MI := (yX9_comes, cX9_comes, 3, none)
theorem mX9_comes : t_Mv qX9_comes 1 := ⟨⟨tw_k tw_s7 50 rfl rfl, iX9, ⟨by decide, by decide, by decide +kernel⟩, by decide⟩, tw_k tw_s7 49 rfl rfl, tw_pv 48 rfl rfl⟩
abbrev qX9_allCome : t_MI := (yX9_allCome, cX9_allCome, 5, none)
theorem mX9_allCome : t_Mv qX9_allCome 0 := ⟨⟨tw_k tw_s7 46 rfl rfl, iX9, ⟨by decide, by decide, by decide +kernel⟩, by decide⟩, tw_k tw_s7 45 rfl rfl, tw_pv 47 rfl rfl⟩
abbrev qX9_works : t_MI := (yX9_works, cX9_works, 4, none)
theorem mX9_works : t_Mv qX9_works 1 := ⟨⟨tw_k tw_s7 70 rfl rfl, iX9, ⟨by decide, by decide, by decide +kernel⟩, by decide⟩, tw_k tw_s7 69 rfl rfl, tw_pv 53 rfl rfl⟩
abbrev qX9_watchesTree : t_MI := (yX9_watchesTree, cX9_watchesTree, 2, none)
theorem mX9_watchesTree : t_Mv qX9_watchesTree 1 := ⟨⟨tw_k tw_s7 82 rfl rfl, iX9, ⟨by decide, by decide, by decide +kernel⟩, by decide⟩, tw_k tw_s7 81 rfl rfl, tw_pv 56 rfl rfl⟩
abbrev qX9_tokenGoes : t_MI := (yX9_tokenGoes, cX9_tokenGoes, 3, none)
theorem mX9_tokenGoes : t_Mv qX9_tokenGoes 2 := ⟨⟨tw_k tw_s7 94 rfl rfl, iX9, ⟨by decide, by decide, by decide +kernel⟩, by decide⟩, tw_k tw_s7 93 rfl rfl, tw_pv 59 rfl rfl⟩
abbrev qX9_watchesToken : t_MI := (yX9_watchesToken, cX9_watchesToken, 3, none)
theorem mX9_watchesToken : t_Mv qX9_watchesToken 1 := ⟨⟨tw_k tw_s7 90 rfl rfl, iX9, ⟨by decide, by decide, by decide +kernel⟩, by decide⟩, tw_k tw_s7 89 rfl rfl, tw_pv 58 rfl rfl⟩
abbrev qX9_watchesWeight : t_MI := (yX9_watchesWeight, cX9_watchesWeight, 3, none)
theorem mX9_watchesWeight : t_Mv qX9_watchesWeight 1 := ⟨⟨tw_k tw_s7 98 rfl rfl, iX9, ⟨by decide, by decide, by decide +kernel⟩, by decide⟩, tw_k tw_s7 97 rfl rfl, tw_pv 60 rfl rfl⟩
abbrev qX9_areAlike : t_MI := (yX9_areAlike, cX9_areAlike, 1, (some .boolean))
theorem mX9_areAlike : t_Mv qX9_areAlike 0 := ⟨⟨tw_k tw_s7 110 rfl rfl, iX9, ⟨by decide, by decide, by decide +kernel⟩, by decide⟩, tw_k tw_s7 109 rfl rfl, tw_pv 63 rfl rfl⟩
abbrev qX9_visitorGoes : t_MI := (yX9_visitorGoes, cX9_visitorGoes, 3, none)
theorem mX9_visitorGoes : t_Mv qX9_visitorGoes 2 := ⟨⟨tw_k tw_s7 106 rfl rfl, iX9, ⟨by decide, by decide, by decide +kernel⟩, by decide⟩, tw_k tw_s7 105 rfl rfl, tw_pv 62 rfl rfl⟩
abbrev qX9_watchesWaves : t_MI := (yX9_watchesWaves, cX9_watchesWaves, 3, none)
theorem mX9_watchesWaves : t_Mv qX9_watchesWaves 1 := ⟨⟨tw_k tw_s7 102 rfl rfl, iX9, ⟨by decide, by decide, by decide +kernel⟩, by decide⟩, tw_k tw_s7 101 rfl rfl, tw_pv 61 rfl rfl⟩
abbrev qX9_watches : t_MI := (yX9_watches, cX9_watches, 2, none)
theorem mX9_watches : t_Mv qX9_watches 1 := ⟨⟨tw_k tw_s7 78 rfl rfl, iX9, ⟨by decide, by decide, by decide +kernel⟩, by decide⟩, tw_k tw_s7 77 rfl rfl, tw_pv 55 rfl rfl⟩
abbrev qX9_onTheirWay : t_MI := (yX9_onTheirWay, cX9_onTheirWay, 4, (some .int))
theorem mX9_onTheirWay : t_Mv qX9_onTheirWay 1 := ⟨⟨tw_k tw_s6 109 rfl rfl, iX9, ⟨by decide, by decide, by decide +kernel⟩, by decide⟩, tw_k tw_s6 108 rfl rfl, tw_pv 25 rfl rfl⟩
abbrev qX9_busy : t_MI := (yX9_busy, cX9_busy, 3, (some .int))
theorem mX9_busy : t_Mv qX9_busy 0 := ⟨⟨tw_k tw_s6 93 rfl rfl, iX9, ⟨by decide, by decide, by decide +kernel⟩, by decide⟩, tw_k tw_s6 92 rfl rfl, tw_pv 21 rfl rfl⟩
abbrev qX9_isWorking : t_MI := (yX9_isWorking, cX9_isWorking, 1, (some .boolean))
theorem mX9_isWorking : t_Mv qX9_isWorking 0 := ⟨⟨tw_k tw_s6 221 rfl rfl, iX9, ⟨by decide, by decide, by decide +kernel⟩, by decide⟩, tw_k tw_s6 220 rfl rfl, tw_pv 38 rfl rfl⟩
abbrev qX9_sumOf : t_MI := (yX9_sumOf, cX9_sumOf, 4, (some .int))
theorem mX9_sumOf : t_Mv qX9_sumOf 1 := ⟨⟨tw_k tw_s6 105 rfl rfl, iX9, ⟨by decide, by decide, by decide +kernel⟩, by decide⟩, tw_k tw_s6 104 rfl rfl, tw_pv 24 rfl rfl⟩
abbrev qX9_measures : t_MI := (yX9_measures, cX9_measures, 4, none)
theorem mX9_measures : t_Mv qX9_measures 0 := ⟨⟨tw_k tw_s7 114 rfl rfl, iX9, ⟨by decide, by decide, by decide +kernel⟩, by decide⟩, tw_k tw_s7 113 rfl rfl, tw_pv 64 rfl rfl⟩
abbrev qX9_ticks : t_MI := (yX9_ticks, cX9_ticks, 2, none)
theorem mX9_ticks : t_Mv qX9_ticks 0 := ⟨⟨tw_k tw_s7 42 rfl rfl, iX9, ⟨by decide, by decide, by decide +kernel⟩, by decide⟩, tw_k tw_s7 41 rfl rfl, tw_pv 46 rfl rfl⟩
abbrev qX9_workBegins : t_MI := (yX9_workBegins, cX9_workBegins, 3, none)
theorem mX9_workBegins : t_Mv qX9_workBegins 1 := ⟨⟨tw_k tw_s6 225 rfl rfl, iX9, ⟨by decide, by decide, by decide +kernel⟩, by decide⟩, tw_k tw_s6 224 rfl rfl, tw_pv 39 rfl rfl⟩
abbrev qX9_lays : t_MI := (yX9_lays, cX9_lays, 3, none)
theorem mX9_lays : t_Mv qX9_lays 1 := ⟨⟨tw_k tw_s6 16 rfl rfl, iX9, ⟨by decide, by decide, by decide +kernel⟩, by decide⟩, tw_k tw_s6 15 rfl rfl, tw_pv 7 rfl rfl⟩
abbrev qX9_feed : t_MI := (yX9_feed, cX9_feed, 6, (some .int))
theorem mX9_feed : t_Mv qX9_feed 5 := ⟨⟨tw_k tw_s6 12 rfl rfl, iX9, ⟨by decide, by decide, by decide +kernel⟩, by decide⟩, tw_k tw_s6 10 rfl rfl, tw_k tw_s6 11 rfl rfl⟩
abbrev qX9_isOf : t_MI := (yX9_isOf, cX9_isOf, 4, (some .boolean))
theorem mX9_isOf : t_Mv qX9_isOf 3 := ⟨⟨tw_k tw_s6 39 rfl rfl, iX9, ⟨by decide, by decide, by decide +kernel⟩, by decide⟩, tw_k tw_s6 38 rfl rfl, tw_pv 11 rfl rfl⟩
abbrev qX9_reads : t_MI := (yX9_reads, cX9_reads, 1, none)
theorem mX9_reads : t_Mv qX9_reads 0 := ⟨⟨tw_k tw_s6 35 rfl rfl, iX9, ⟨by decide, by decide, by decide +kernel⟩, by decide⟩, tw_k tw_s6 34 rfl rfl, tw_pv 10 rfl rfl⟩
abbrev qX9_wants : t_MI := (yX9_wants, cX9_wants, 3, none)
theorem mX9_wants : t_Mv qX9_wants 2 := ⟨⟨tw_k tw_s6 50 rfl rfl, iX9, ⟨by decide, by decide, by decide +kernel⟩, by decide⟩, tw_k tw_s6 49 rfl rfl, tw_pv 13 rfl rfl⟩
abbrev qX9_isWord : t_MI := (yX9_isWord, cX9_isWord, 3, (some .boolean))
theorem mX9_isWord : t_Mv qX9_isWord 1 := ⟨⟨tw_k tw_s6 46 rfl rfl, iX9, ⟨by decide, by decide, by decide +kernel⟩, by decide⟩, tw_k tw_s6 45 rfl rfl, tw_pv 12 rfl rfl⟩
abbrev qX9_takes : t_MI := (yX9_takes, cX9_takes, 4, (some .int))
theorem mX9_takes : t_Mv qX9_takes 2 := ⟨⟨tw_k tw_s6 54 rfl rfl, iX9, ⟨by decide, by decide, by decide +kernel⟩, by decide⟩, tw_k tw_s6 53 rfl rfl, tw_pv 14 rfl rfl⟩
abbrev qX9_takesNode : t_MI := (yX9_takesNode, cX9_takesNode, 3, (some .int))
theorem mX9_takesNode : t_Mv qX9_takesNode 1 := ⟨⟨tw_k tw_s6 71 rfl rfl, iX9, ⟨by decide, by decide, by decide +kernel⟩, by decide⟩, tw_k tw_s6 70 rfl rfl, tw_pv 18 rfl rfl⟩
abbrev qX9_semicolon : t_MI := (yX9_semicolon, cX9_semicolon, 1, none)
theorem mX9_semicolon : t_Mv qX9_semicolon 0 := ⟨⟨tw_k tw_s6 58 rfl rfl, iX9, ⟨by decide, by decide, by decide +kernel⟩, by decide⟩, tw_k tw_s6 57 rfl rfl, tw_pv 15 rfl rfl⟩
abbrev qX9_readsWire : t_MI := (yX9_readsWire, cX9_readsWire, 5, none)
theorem mX9_readsWire : t_Mv qX9_readsWire 1 := ⟨⟨tw_k tw_s6 67 rfl rfl, iX9, ⟨by decide, by decide, by decide +kernel⟩, by decide⟩, tw_k tw_s6 66 rfl rfl, tw_pv 17 rfl rfl⟩
abbrev qX9_readsPlan : t_MI := (yX9_readsPlan, cX9_readsPlan, 5, none)
theorem mX9_readsPlan : t_Mv qX9_readsPlan 0 := ⟨⟨tw_k tw_s6 77 rfl rfl, iX9, ⟨by decide, by decide, by decide +kernel⟩, by decide⟩, tw_k tw_s6 76 rfl rfl, tw_pv 19 rfl rfl⟩
abbrev qX9_addsRow : t_MI := (yX9_addsRow, cX9_addsRow, 6, none)
theorem mX9_addsRow : t_Mv qX9_addsRow 4 := ⟨⟨tw_k tw_s6 81 rfl rfl, iX9, ⟨by decide, by decide, by decide +kernel⟩, by decide⟩, tw_k tw_s6 80 rfl rfl, tw_pv 20 rfl rfl⟩
abbrev qX9_readsLine : t_MI := (yX9_readsLine, cX9_readsLine, 1, none)
theorem mX9_readsLine : t_Mv qX9_readsLine 0 := ⟨⟨tw_k tw_s6 62 rfl rfl, iX9, ⟨by decide, by decide, by decide +kernel⟩, by decide⟩, tw_k tw_s6 61 rfl rfl, tw_pv 16 rfl rfl⟩
abbrev qX9_swaps : t_MI := (yX9_swaps, cX9_swaps, 2, none)
theorem mX9_swaps : t_Mv qX9_swaps 0 := ⟨⟨tw_k tw_s6 31 rfl rfl, iX9, ⟨by decide, by decide, by decide +kernel⟩, by decide⟩, tw_k tw_s6 30 rfl rfl, tw_pv 9 rfl rfl⟩
abbrev qX9_load : t_MI := (yX9_load, cX9_load, 2, (some .int))
theorem mX9_load : t_Mv qX9_load 1 := ⟨⟨tw_k tw_s6 20 rfl rfl, iX9, ⟨by decide, by decide, by decide +kernel⟩, by decide⟩, tw_k tw_s6 18 rfl rfl, tw_k tw_s6 19 rfl rfl⟩
abbrev qX9_fault : t_MI := (yX9_fault, cX9_fault, 2, (some .int))
theorem mX9_fault : t_Mv qX9_fault 1 := ⟨⟨tw_k tw_s6 85 rfl rfl, iX9, ⟨by decide, by decide, by decide +kernel⟩, by decide⟩, tw_k tw_s6 83 rfl rfl, tw_k tw_s6 84 rfl rfl⟩
abbrev qX9_many : t_MI := (yX9_many, cX9_many, 2, (some .int))
theorem mX9_many : t_Mv qX9_many 1 := ⟨⟨tw_k tw_s6 89 rfl rfl, iX9, ⟨by decide, by decide, by decide +kernel⟩, by decide⟩, tw_k tw_s6 87 rfl rfl, tw_k tw_s6 88 rfl rfl⟩
abbrev qX9_childrenOf : t_MI := (yX9_childrenOf, cX9_childrenOf, 4, (some .int))
theorem mX9_childrenOf : t_Mv qX9_childrenOf 1 := ⟨⟨tw_k tw_s6 125 rfl rfl, iX9, ⟨by decide, by decide, by decide +kernel⟩, by decide⟩, tw_k tw_s6 124 rfl rfl, tw_pv 28 rfl rfl⟩
abbrev qX9_node : t_MI := (yX9_node, cX9_node, 3, (some .int))
theorem mX9_node : t_Mv qX9_node 2 := ⟨⟨tw_k tw_s6 117 rfl rfl, iX9, ⟨by decide, by decide, by decide +kernel⟩, by decide⟩, tw_k tw_s6 115 rfl rfl, tw_k tw_s6 116 rfl rfl⟩
abbrev qX9_asksWire : t_MI := (yX9_asksWire, cX9_asksWire, 4, (some .boolean))
theorem mX9_asksWire : t_Mv qX9_asksWire 3 := ⟨⟨tw_k tw_s6 133 rfl rfl, iX9, ⟨by decide, by decide, by decide +kernel⟩, by decide⟩, tw_k tw_s6 132 rfl rfl, tw_pv 29 rfl rfl⟩
abbrev qX9_wire : t_MI := (yX9_wire, cX9_wire, 3, (some .int))
theorem mX9_wire : t_Mv qX9_wire 2 := ⟨⟨tw_k tw_s6 129 rfl rfl, iX9, ⟨by decide, by decide, by decide +kernel⟩, by decide⟩, tw_k tw_s6 127 rfl rfl, tw_k tw_s6 128 rfl rfl⟩
abbrev qX9_row : t_MI := (yX9_row, cX9_row, 3, (some .int))
theorem mX9_row : t_Mv qX9_row 2 := ⟨⟨tw_k tw_s6 137 rfl rfl, iX9, ⟨by decide, by decide, by decide +kernel⟩, by decide⟩, tw_k tw_s6 135 rfl rfl, tw_k tw_s6 136 rfl rfl⟩
abbrev qX9_letter : t_MI := (yX9_letter, cX9_letter, 3, (some .int))
theorem mX9_letter : t_Mv qX9_letter 2 := ⟨⟨tw_k tw_s6 141 rfl rfl, iX9, ⟨by decide, by decide, by decide +kernel⟩, by decide⟩, tw_k tw_s6 139 rfl rfl, tw_k tw_s6 140 rfl rfl⟩
abbrev qX9_depth : t_MI := (yX9_depth, cX9_depth, 5, (some .int))
theorem mX9_depth : t_Mv qX9_depth 0 := ⟨⟨tw_k tw_s6 153 rfl rfl, iX9, ⟨by decide, by decide, by decide +kernel⟩, by decide⟩, tw_k tw_s6 152 rfl rfl, tw_pv 31 rfl rfl⟩
abbrev qX9_asksWatch : t_MI := (yX9_asksWatch, cX9_asksWatch, 3, (some .boolean))
theorem mX9_asksWatch : t_Mv qX9_asksWatch 2 := ⟨⟨tw_k tw_s6 149 rfl rfl, iX9, ⟨by decide, by decide, by decide +kernel⟩, by decide⟩, tw_k tw_s6 148 rfl rfl, tw_pv 30 rfl rfl⟩
abbrev qX9_watch : t_MI := (yX9_watch, cX9_watch, 3, (some .int))
theorem mX9_watch : t_Mv qX9_watch 2 := ⟨⟨tw_k tw_s6 145 rfl rfl, iX9, ⟨by decide, by decide, by decide +kernel⟩, by decide⟩, tw_k tw_s6 143 rfl rfl, tw_k tw_s6 144 rfl rfl⟩
abbrev qX9_lagOf : t_MI := (yX9_lagOf, cX9_lagOf, 2, (some .int))
theorem mX9_lagOf : t_Mv qX9_lagOf 1 := ⟨⟨tw_k tw_s6 165 rfl rfl, iX9, ⟨by decide, by decide, by decide +kernel⟩, by decide⟩, tw_k tw_s6 164 rfl rfl, tw_pv 33 rfl rfl⟩
abbrev qX9_lag : t_MI := (yX9_lag, cX9_lag, 2, (some .int))
theorem mX9_lag : t_Mv qX9_lag 1 := ⟨⟨tw_k tw_s6 157 rfl rfl, iX9, ⟨by decide, by decide, by decide +kernel⟩, by decide⟩, tw_k tw_s6 155 rfl rfl, tw_k tw_s6 156 rfl rfl⟩
abbrev qX9_greatestWire : t_MI := (yX9_greatestWire, cX9_greatestWire, 5, (some .int))
theorem mX9_greatestWire : t_Mv qX9_greatestWire 1 := ⟨⟨tw_k tw_s6 177 rfl rfl, iX9, ⟨by decide, by decide, by decide +kernel⟩, by decide⟩, tw_k tw_s6 176 rfl rfl, tw_pv 35 rfl rfl⟩
abbrev qX9_round : t_MI := (yX9_round, cX9_round, 5, (some .int))
theorem mX9_round : t_Mv qX9_round 1 := ⟨⟨tw_k tw_s6 181 rfl rfl, iX9, ⟨by decide, by decide, by decide +kernel⟩, by decide⟩, tw_k tw_s6 180 rfl rfl, tw_pv 36 rfl rfl⟩
abbrev qX9_boundOf : t_MI := (yX9_boundOf, cX9_boundOf, 2, (some .int))
theorem mX9_boundOf : t_Mv qX9_boundOf 1 := ⟨⟨tw_k tw_s6 173 rfl rfl, iX9, ⟨by decide, by decide, by decide +kernel⟩, by decide⟩, tw_k tw_s6 172 rfl rfl, tw_pv 34 rfl rfl⟩
abbrev qX9_bound : t_MI := (yX9_bound, cX9_bound, 2, (some .int))
theorem mX9_bound : t_Mv qX9_bound 1 := ⟨⟨tw_k tw_s6 169 rfl rfl, iX9, ⟨by decide, by decide, by decide +kernel⟩, by decide⟩, tw_k tw_s6 167 rfl rfl, tw_k tw_s6 168 rfl rfl⟩
abbrev qX9_best : t_MI := (yX9_best, cX9_best, 5, (some .int))
theorem mX9_best : t_Mv qX9_best 1 := ⟨⟨tw_k tw_s6 185 rfl rfl, iX9, ⟨by decide, by decide, by decide +kernel⟩, by decide⟩, tw_k tw_s6 183 rfl rfl, tw_k tw_s6 184 rfl rfl⟩
abbrev qX9_weights : t_MI := (yX9_weights, cX9_weights, 4, (some .int))
theorem mX9_weights : t_Mv qX9_weights 1 := ⟨⟨tw_k tw_s6 189 rfl rfl, iX9, ⟨by decide, by decide, by decide +kernel⟩, by decide⟩, tw_k tw_s6 187 rfl rfl, tw_k tw_s6 188 rfl rfl⟩
abbrev qX9_last : t_MI := (yX9_last, cX9_last, 3, (some .int))
theorem mX9_last : t_Mv qX9_last 1 := ⟨⟨tw_k tw_s6 193 rfl rfl, iX9, ⟨by decide, by decide, by decide +kernel⟩, by decide⟩, tw_k tw_s6 191 rfl rfl, tw_k tw_s6 192 rfl rfl⟩
abbrev qX9_ledger : t_MI := (yX9_ledger, cX9_ledger, 4, (some .int))
theorem mX9_ledger : t_Mv qX9_ledger 3 := ⟨⟨tw_k tw_s6 197 rfl rfl, iX9, ⟨by decide, by decide, by decide +kernel⟩, by decide⟩, tw_k tw_s6 195 rfl rfl, tw_k tw_s6 196 rfl rfl⟩
abbrev qX9_cutting : t_MI := (yX9_cutting, cX9_cutting, 3, (some .int))
theorem mX9_cutting : t_Mv qX9_cutting 1 := ⟨⟨tw_k tw_s6 201 rfl rfl, iX9, ⟨by decide, by decide, by decide +kernel⟩, by decide⟩, tw_k tw_s6 199 rfl rfl, tw_k tw_s6 200 rfl rfl⟩
abbrev qX9_reds : t_MI := (yX9_reds, cX9_reds, 3, (some .int))
theorem mX9_reds : t_Mv qX9_reds 0 := ⟨⟨tw_k tw_s6 205 rfl rfl, iX9, ⟨by decide, by decide, by decide +kernel⟩, by decide⟩, tw_k tw_s6 204 rfl rfl, tw_pv 37 rfl rfl⟩
abbrev qX9_recorded : t_MI := (yX9_recorded, cX9_recorded, 3, (some .int))
theorem mX9_recorded : t_Mv qX9_recorded 2 := ⟨⟨tw_k tw_s6 209 rfl rfl, iX9, ⟨by decide, by decide, by decide +kernel⟩, by decide⟩, tw_k tw_s6 207 rfl rfl, tw_k tw_s6 208 rfl rfl⟩
abbrev qX9_event : t_MI := (yX9_event, cX9_event, 3, (some .int))
theorem mX9_event : t_Mv qX9_event 2 := ⟨⟨tw_k tw_s6 213 rfl rfl, iX9, ⟨by decide, by decide, by decide +kernel⟩, by decide⟩, tw_k tw_s6 211 rfl rfl, tw_k tw_s6 212 rfl rfl⟩
abbrev qX9_begin : t_MI := (yX9_begin, cX9_begin, 2, (some .int))
theorem mX9_begin : t_Mv qX9_begin 1 := ⟨⟨tw_k tw_s6 217 rfl rfl, iX9, ⟨by decide, by decide, by decide +kernel⟩, by decide⟩, tw_k tw_s6 215 rfl rfl, tw_k tw_s6 216 rfl rfl⟩
abbrev qX9_plan : t_MI := (yX9_plan, cX9_plan, 5, (some .int))
theorem mX9_plan : t_Mv qX9_plan 4 := ⟨⟨tw_k tw_s6 238 rfl rfl, iX9, ⟨by decide, by decide, by decide +kernel⟩, by decide⟩, tw_k tw_s6 236 rfl rfl, tw_k tw_s6 237 rfl rfl⟩
abbrev qX9_drop : t_MI := (yX9_drop, cX9_drop, 3, (some .int))
theorem mX9_drop : t_Mv qX9_drop 1 := ⟨⟨tw_k tw_s7 2 rfl rfl, iX9, ⟨by decide, by decide, by decide +kernel⟩, by decide⟩, tw_k tw_s7 0 rfl rfl, tw_k tw_s7 1 rfl rfl⟩
abbrev qX9_wires : t_MI := (yX9_wires, cX9_wires, 5, (some .int))
theorem mX9_wires : t_Mv qX9_wires 3 := ⟨⟨tw_k tw_s7 6 rfl rfl, iX9, ⟨by decide, by decide, by decide +kernel⟩, by decide⟩, tw_k tw_s7 4 rfl rfl, tw_k tw_s7 5 rfl rfl⟩
abbrev qX9_add : t_MI := (yX9_add, cX9_add, 3, (some .int))
theorem mX9_add : t_Mv qX9_add 0 := ⟨⟨tw_k tw_s7 10 rfl rfl, iX9, ⟨by decide, by decide, by decide +kernel⟩, by decide⟩, tw_k tw_s7 8 rfl rfl, tw_k tw_s7 9 rfl rfl⟩
abbrev qX9_sleep : t_MI := (yX9_sleep, cX9_sleep, 4, (some .int))
theorem mX9_sleep : t_Mv qX9_sleep 2 := ⟨⟨tw_k tw_s7 18 rfl rfl, iX9, ⟨by decide, by decide, by decide +kernel⟩, by decide⟩, tw_k tw_s7 16 rfl rfl, tw_k tw_s7 17 rfl rfl⟩
abbrev qX9_cut : t_MI := (yX9_cut, cX9_cut, 2, (some .int))
theorem mX9_cut : t_Mv qX9_cut 1 := ⟨⟨tw_k tw_s7 22 rfl rfl, iX9, ⟨by decide, by decide, by decide +kernel⟩, by decide⟩, tw_k tw_s7 20 rfl rfl, tw_k tw_s7 21 rfl rfl⟩
abbrev qX9_tick : t_MI := (yX9_tick, cX9_tick, 3, (some .int))
theorem mX9_tick : t_Mv qX9_tick 1 := ⟨⟨tw_k tw_s7 38 rfl rfl, iX9, ⟨by decide, by decide, by decide +kernel⟩, by decide⟩, tw_k tw_s7 36 rfl rfl, tw_k tw_s7 37 rfl rfl⟩
abbrev qX9_mark : t_MI := (yX9_mark, cX9_mark, 2, (some .int))
theorem mX9_mark : t_Mv qX9_mark 0 := ⟨⟨tw_k tw_s7 118 rfl rfl, iX9, ⟨by decide, by decide, by decide +kernel⟩, by decide⟩, tw_k tw_s7 116 rfl rfl, tw_k tw_s7 117 rfl rfl⟩
abbrev qX9_back : t_MI := (yX9_back, cX9_back, 2, (some .int))
theorem mX9_back : t_Mv qX9_back 0 := ⟨⟨tw_k tw_s7 122 rfl rfl, iX9, ⟨by decide, by decide, by decide +kernel⟩, by decide⟩, tw_k tw_s7 120 rfl rfl, tw_k tw_s7 121 rfl rfl⟩
abbrev qX9_laysAside : t_MI := (yX9_laysAside, cX9_laysAside, 2, none)
theorem mX9_laysAside : t_Mv qX9_laysAside 0 := ⟨⟨tw_k tw_s7 134 rfl rfl, iX9, ⟨by decide, by decide, by decide +kernel⟩, by decide⟩, tw_k tw_s7 133 rfl rfl, tw_pv 66 rfl rfl⟩
abbrev qX9_comesBack : t_MI := (yX9_comesBack, cX9_comesBack, 2, none)
theorem mX9_comesBack : t_Mv qX9_comesBack 0 := ⟨⟨tw_k tw_s7 142 rfl rfl, iX9, ⟨by decide, by decide, by decide +kernel⟩, by decide⟩, tw_k tw_s7 141 rfl rfl, tw_pv 68 rfl rfl⟩
abbrev qX9_till : t_MI := (yX9_till, cX9_till, 3, (some .int))
theorem mX9_till : t_Mv qX9_till 1 := ⟨⟨tw_k tw_s7 138 rfl rfl, iX9, ⟨by decide, by decide, by decide +kernel⟩, by decide⟩, tw_k tw_s7 137 rfl rfl, tw_pv 67 rfl rfl⟩
abbrev qX9_triesTill : t_MI := (yX9_triesTill, cX9_triesTill, 3, (some .int))
theorem mX9_triesTill : t_Mv qX9_triesTill 1 := ⟨⟨tw_k tw_s7 130 rfl rfl, iX9, ⟨by decide, by decide, by decide +kernel⟩, by decide⟩, tw_k tw_s7 129 rfl rfl, tw_pv 65 rfl rfl⟩
abbrev qX9_ends : t_MI := (yX9_ends, cX9_ends, 1, (some .int))
theorem mX9_ends : t_Mv qX9_ends 0 := ⟨⟨tw_k tw_s7 126 rfl rfl, iX9, ⟨by decide, by decide, by decide +kernel⟩, by decide⟩, tw_k tw_s7 124 rfl rfl, tw_k tw_s7 125 rfl rfl⟩
abbrev qX9_tells : t_MI := (yX9_tells, cX9_tells, 2, (some .int))
theorem mX9_tells : t_Mv qX9_tells 1 := ⟨⟨tw_k tw_s7 146 rfl rfl, iX9, ⟨by decide, by decide, by decide +kernel⟩, by decide⟩, tw_k tw_s7 144 rfl rfl, tw_k tw_s7 145 rfl rfl⟩
abbrev qX9_whole : t_MI := (yX9_whole, cX9_whole, 3, (some .int))
theorem mX9_whole : t_Mv qX9_whole 1 := ⟨⟨tw_k tw_s7 150 rfl rfl, iX9, ⟨by decide, by decide, by decide +kernel⟩, by decide⟩, tw_k tw_s7 148 rfl rfl, tw_k tw_s7 149 rfl rfl⟩
abbrev qX9_goneBy : t_MI := (yX9_goneBy, cX9_goneBy, 6, (some .int))
theorem mX9_goneBy : t_Mv qX9_goneBy 3 := ⟨⟨tw_k tw_s7 158 rfl rfl, iX9, ⟨by decide, by decide, by decide +kernel⟩, by decide⟩, tw_k tw_s7 157 rfl rfl, tw_pv 69 rfl rfl⟩
abbrev qX9_would : t_MI := (yX9_would, cX9_would, 5, (some .int))
theorem mX9_would : t_Mv qX9_would 3 := ⟨⟨tw_k tw_s7 154 rfl rfl, iX9, ⟨by decide, by decide, by decide +kernel⟩, by decide⟩, tw_k tw_s7 152 rfl rfl, tw_k tw_s7 153 rfl rfl⟩
abbrev qX9_with : t_MI := (yX9_with, cX9_with, 7, (some .int))
theorem mX9_with : t_Mv qX9_with 5 := ⟨⟨tw_k tw_s7 162 rfl rfl, iX9, ⟨by decide, by decide, by decide +kernel⟩, by decide⟩, tw_k tw_s7 160 rfl rfl, tw_k tw_s7 161 rfl rfl⟩
abbrev qX9_margin : t_MI := (yX9_margin, cX9_margin, 4, (some .int))
theorem mX9_margin : t_Mv qX9_margin 2 := ⟨⟨tw_k tw_s7 166 rfl rfl, iX9, ⟨by decide, by decide, by decide +kernel⟩, by decide⟩, tw_k tw_s7 164 rfl rfl, tw_k tw_s7 165 rfl rfl⟩
abbrev qX9_quickest : t_MI := (yX9_quickest, cX9_quickest, 6, (some .int))
theorem mX9_quickest : t_Mv qX9_quickest 1 := ⟨⟨tw_k tw_s7 170 rfl rfl, iX9, ⟨by decide, by decide, by decide +kernel⟩, by decide⟩, tw_k tw_s7 168 rfl rfl, tw_k tw_s7 169 rfl rfl⟩
abbrev qX9_sentBy : t_MI := (yX9_sentBy, cX9_sentBy, 4, (some .int))
theorem mX9_sentBy : t_Mv qX9_sentBy 1 := ⟨⟨tw_k tw_s7 178 rfl rfl, iX9, ⟨by decide, by decide, by decide +kernel⟩, by decide⟩, tw_k tw_s7 177 rfl rfl, tw_pv 70 rfl rfl⟩
abbrev qX9_enough : t_MI := (yX9_enough, cX9_enough, 3, (some .int))
theorem mX9_enough : t_Mv qX9_enough 0 := ⟨⟨tw_k tw_s7 174 rfl rfl, iX9, ⟨by decide, by decide, by decide +kernel⟩, by decide⟩, tw_k tw_s7 172 rfl rfl, tw_k tw_s7 173 rfl rfl⟩
abbrev qJ13_bitCount_95d88 : t_MI := (yJ13_bitCount_95d88, cJ13_bitCount_95d88, 2, (some .int))
theorem mJ13_bitCount_95d88 : t_Ms qJ13_bitCount_95d88 1 := ⟨⟨tw_k tw_s5 173 rfl rfl, iJ13, ⟨by decide, by decide, by decide +kernel⟩, by decide⟩, tw_k tw_s5 172 rfl rfl⟩
abbrev qJ9_max_7cf53 : t_MI := (yJ9_max_7cf53, cJ9_max_7cf53, 2, (some .int))
theorem mJ9_max_7cf53 : t_Ms qJ9_max_7cf53 2 := ⟨⟨tw_k tw_s2 216 rfl rfl, iJ9, ⟨by decide, by decide, by decide +kernel⟩, by decide⟩, tw_k tw_s2 215 rfl rfl⟩
abbrev qJ9_min_7cf53 : t_MI := (yJ9_min_7cf53, cJ9_min_7cf53, 2, (some .int))
theorem mJ9_min_7cf53 : t_Ms qJ9_min_7cf53 2 := ⟨⟨tw_k tw_s2 219 rfl rfl, iJ9, ⟨by decide, by decide, by decide +kernel⟩, by decide⟩, tw_k tw_s2 218 rfl rfl⟩
abbrev qJ0_length_8abf5 : t_MI := (yJ0_length_8abf5, cJ0_length_8abf5, 1, (some .int))
theorem mJ0_length_8abf5 : t_Mv qJ0_length_8abf5 0 := ⟨⟨tw_k tw_s3 18 rfl rfl, iJ0, ⟨by decide, by decide, by decide +kernel⟩, by decide⟩, tw_k tw_s3 16 rfl rfl, tw_k tw_s3 17 rfl rfl⟩
abbrev qJ0_charAt_5068e : t_MI := (yJ0_charAt_5068e, cJ0_charAt_5068e, 2, (some .char))
theorem mJ0_charAt_5068e : t_Mv qJ0_charAt_5068e 1 := ⟨⟨tw_k tw_s3 28 rfl rfl, iJ0, ⟨by decide, by decide, by decide +kernel⟩, by decide⟩, tw_k tw_s3 26 rfl rfl, tw_k tw_s3 27 rfl rfl⟩
abbrev qJ0_coder_7d493 : t_MI := (yJ0_coder_7d493, cJ0_coder_7d493, 1, (some .byte))
theorem mJ0_coder_7d493 : t_Mv qJ0_coder_7d493 0 := ⟨⟨tw_k tw_s3 22 rfl rfl, iJ0, ⟨by decide, by decide, by decide +kernel⟩, by decide⟩, tw_k tw_s3 20 rfl rfl, tw_k tw_s3 21 rfl rfl⟩
abbrev qJ0_isLatin1_aae02 : t_MI := (yJ0_isLatin1_aae02, cJ0_isLatin1_aae02, 1, (some .boolean))
theorem mJ0_isLatin1_aae02 : t_Mv qJ0_isLatin1_aae02 0 := ⟨⟨tw_k tw_s3 32 rfl rfl, iJ0, ⟨by decide, by decide, by decide +kernel⟩, by decide⟩, tw_k tw_s3 30 rfl rfl, tw_k tw_s3 31 rfl rfl⟩
abbrev qJ0_checkIndex_df160 : t_MI := (yJ0_checkIndex_df160, cJ0_checkIndex_df160, 2, none)
theorem mJ0_checkIndex_df160 : t_Ms qJ0_checkIndex_df160 2 := ⟨⟨tw_k tw_s3 38 rfl rfl, iJ0, ⟨by decide, by decide, by decide +kernel⟩, by decide⟩, tw_k tw_s3 37 rfl rfl⟩
abbrev qJ1_charAt_3b067 : t_MI := (yJ1_charAt_3b067, cJ1_charAt_3b067, 2, (some .char))
theorem mJ1_charAt_3b067 : t_Ms qJ1_charAt_3b067 2 := ⟨⟨tw_k tw_s3 35 rfl rfl, iJ1, ⟨by decide, by decide, by decide +kernel⟩, by decide⟩, tw_k tw_s3 34 rfl rfl⟩
abbrev qJ2_getChar_3b067 : t_MI := (yJ2_getChar_3b067, cJ2_getChar_3b067, 2, (some .char))
theorem mJ2_getChar_3b067 : t_Ms qJ2_getChar_3b067 2 := ⟨⟨tw_k tw_s3 56 rfl rfl, iJ2, ⟨by decide, by decide, by decide +kernel⟩, by decide⟩, tw_k tw_s3 55 rfl rfl⟩
abbrev qJ2_length_9d52b : t_MI := (yJ2_length_9d52b, cJ2_length_9d52b, 1, (some .int))
theorem mJ2_length_9d52b : t_Ms qJ2_length_9d52b 1 := ⟨⟨tw_k tw_s3 52 rfl rfl, iJ2, ⟨by decide, by decide, by decide +kernel⟩, by decide⟩, tw_k tw_s3 51 rfl rfl⟩
abbrev qJ2_charAt_3b067 : t_MI := (yJ2_charAt_3b067, cJ2_charAt_3b067, 2, (some .char))
theorem mJ2_charAt_3b067 : t_Ms qJ2_charAt_3b067 2 := ⟨⟨tw_k tw_s3 46 rfl rfl, iJ2, ⟨by decide, by decide, by decide +kernel⟩, by decide⟩, tw_k tw_s3 45 rfl rfl⟩
abbrev qJ2_checkIndex_2214a : t_MI := (yJ2_checkIndex_2214a, cJ2_checkIndex_2214a, 2, none)
theorem mJ2_checkIndex_2214a : t_Ms qJ2_checkIndex_2214a 2 := ⟨⟨tw_k tw_s3 49 rfl rfl, iJ2, ⟨by decide, by decide, by decide +kernel⟩, by decide⟩, tw_k tw_s3 48 rfl rfl⟩
abbrev qJ7_fill_53178 : t_MI := (yJ7_fill_53178, cJ7_fill_53178, 4, none)
theorem mJ7_fill_53178 : t_Ms qJ7_fill_53178 2 := ⟨⟨tw_k tw_s2 67 rfl rfl, iJ7, ⟨by decide, by decide, by decide +kernel⟩, by decide⟩, tw_k tw_s2 66 rfl rfl⟩
abbrev qJ7_copyOf_59c91 : t_MI := (yJ7_copyOf_59c91, cJ7_copyOf_59c91, 3, (some (.array .int)))
theorem mJ7_copyOf_59c91 : t_Ms qJ7_copyOf_59c91 2 := ⟨⟨tw_k tw_s5 0 rfl rfl, iJ7, ⟨by decide, by decide, by decide +kernel⟩, by decide⟩, tw_k tw_s4 239 rfl rfl⟩
abbrev qJ3_checkIndex_8e157 : t_MI := (yJ3_checkIndex_8e157, cJ3_checkIndex_8e157, 3, (some .int))
theorem mJ3_checkIndex_8e157 : t_Ms qJ3_checkIndex_8e157 3 := ⟨⟨tw_k tw_s3 43 rfl rfl, iJ3, ⟨by decide, by decide, by decide +kernel⟩, by decide⟩, tw_k tw_s3 42 rfl rfl⟩
abbrev qL_law : t_MI := (yL_law, cL_law, 4, some .boolean)
theorem fX5_11 : t_FL RX5 11 5 0 := ⟨RX5, TX5, 9, rfl, by decide, tw_k tw_s1 33 rfl rfl, uX5⟩
theorem pX5_11 : t_FP RX5 11 5 0 (.array .int) true := ⟨RX5, TX5, 9, tyX5, rfl, by decide, tw_k tw_s1 33 rfl rfl, uX5, tyX5_ok, nmX5, by decide +kernel, rfl, fun _ => rfl⟩
theorem fX5_22 : t_FL RX5 22 5 1 := ⟨RX5, TX5, 9, rfl, by decide, tw_k tw_s1 34 rfl rfl, uX5⟩
theorem pX5_22 : t_FP RX5 22 5 1 .int false := ⟨RX5, TX5, 9, tyX5, rfl, by decide, tw_k tw_s1 34 rfl rfl, uX5, tyX5_ok, nmX5, by decide +kernel, rfl, fun h => by cases h⟩
theorem fX8_42 : t_FL RX8 42 5 1 := ⟨RX5, TX5, 9, rfl, by decide, tw_k tw_s1 35 rfl rfl, uX5⟩
theorem pX8_42 : t_FP RX8 42 5 1 .int false := ⟨RX5, TX5, 9, tyX5, rfl, by decide, tw_k tw_s1 35 rfl rfl, uX5, tyX5_ok, nmX5, by decide +kernel, rfl, fun h => by cases h⟩
theorem fX5_15 : t_FL RX5 15 5 2 := ⟨RX5, TX5, 9, rfl, by decide, tw_k tw_s1 36 rfl rfl, uX5⟩
theorem pX5_15 : t_FP RX5 15 5 2 .int false := ⟨RX5, TX5, 9, tyX5, rfl, by decide, tw_k tw_s1 36 rfl rfl, uX5, tyX5_ok, nmX5, by decide +kernel, rfl, fun h => by cases h⟩
theorem fX8_63 : t_FL RX8 63 5 2 := ⟨RX5, TX5, 9, rfl, by decide, tw_k tw_s1 37 rfl rfl, uX5⟩
theorem pX8_63 : t_FP RX8 63 5 2 .int false := ⟨RX5, TX5, 9, tyX5, rfl, by decide, tw_k tw_s1 37 rfl rfl, uX5, tyX5_ok, nmX5, by decide +kernel, rfl, fun h => by cases h⟩
theorem fX5_19 : t_FL RX5 19 5 3 := ⟨RX5, TX5, 9, rfl, by decide, tw_k tw_s1 38 rfl rfl, uX5⟩
theorem pX5_19 : t_FP RX5 19 5 3 .int false := ⟨RX5, TX5, 9, tyX5, rfl, by decide, tw_k tw_s1 38 rfl rfl, uX5, tyX5_ok, nmX5, by decide +kernel, rfl, fun h => by cases h⟩
theorem fX8_66 : t_FL RX8 66 5 3 := ⟨RX5, TX5, 9, rfl, by decide, tw_k tw_s1 39 rfl rfl, uX5⟩
theorem pX8_66 : t_FP RX8 66 5 3 .int false := ⟨RX5, TX5, 9, tyX5, rfl, by decide, tw_k tw_s1 39 rfl rfl, uX5, tyX5_ok, nmX5, by decide +kernel, rfl, fun h => by cases h⟩
theorem fX5_34 : t_FL RX5 34 5 4 := ⟨RX5, TX5, 9, rfl, by decide, tw_k tw_s1 40 rfl rfl, uX5⟩
theorem pX5_34 : t_FP RX5 34 5 4 .int false := ⟨RX5, TX5, 9, tyX5, rfl, by decide, tw_k tw_s1 40 rfl rfl, uX5, tyX5_ok, nmX5, by decide +kernel, rfl, fun h => by cases h⟩
theorem fX5_125 : t_FL RX5 125 5 5 := ⟨RX5, TX5, 9, rfl, by decide, tw_k tw_s1 41 rfl rfl, uX5⟩
theorem pX5_125 : t_FP RX5 125 5 5 .int false := ⟨RX5, TX5, 9, tyX5, rfl, by decide, tw_k tw_s1 41 rfl rfl, uX5, tyX5_ok, nmX5, by decide +kernel, rfl, fun h => by cases h⟩
theorem fX5_37 : t_FL RX5 37 5 6 := ⟨RX5, TX5, 9, rfl, by decide, tw_k tw_s1 42 rfl rfl, uX5⟩
theorem pX5_37 : t_FP RX5 37 5 6 .int false := ⟨RX5, TX5, 9, tyX5, rfl, by decide, tw_k tw_s1 42 rfl rfl, uX5, tyX5_ok, nmX5, by decide +kernel, rfl, fun h => by cases h⟩
theorem fX5_47 : t_FL RX5 47 5 7 := ⟨RX5, TX5, 9, rfl, by decide, tw_k tw_s1 43 rfl rfl, uX5⟩
theorem pX5_47 : t_FP RX5 47 5 7 .int false := ⟨RX5, TX5, 9, tyX5, rfl, by decide, tw_k tw_s1 43 rfl rfl, uX5, tyX5_ok, nmX5, by decide +kernel, rfl, fun h => by cases h⟩
theorem fX5_70 : t_FL RX5 70 5 8 := ⟨RX5, TX5, 9, rfl, by decide, tw_k tw_s1 44 rfl rfl, uX5⟩
theorem pX5_70 : t_FP RX5 70 5 8 .int false := ⟨RX5, TX5, 9, tyX5, rfl, by decide, tw_k tw_s1 44 rfl rfl, uX5, tyX5_ok, nmX5, by decide +kernel, rfl, fun h => by cases h⟩
theorem fX4_11 : t_FL RX4 11 4 0 := ⟨RX4, TX4, 3, rfl, by decide, tw_k tw_s1 79 rfl rfl, uX4⟩
theorem pX4_11 : t_FP RX4 11 4 0 (.array .int) true := ⟨RX4, TX4, 3, tyX4, rfl, by decide, tw_k tw_s1 79 rfl rfl, uX4, tyX4_ok, nmX4, by decide +kernel, rfl, fun _ => rfl⟩
theorem fX4_15 : t_FL RX4 15 4 1 := ⟨RX4, TX4, 3, rfl, by decide, tw_k tw_s1 80 rfl rfl, uX4⟩
theorem pX4_15 : t_FP RX4 15 4 1 (.array .int) true := ⟨RX4, TX4, 3, tyX4, rfl, by decide, tw_k tw_s1 80 rfl rfl, uX4, tyX4_ok, nmX4, by decide +kernel, rfl, fun _ => rfl⟩
theorem fX7_71 : t_FL RX7 71 4 2 := ⟨RX4, TX4, 3, rfl, by decide, tw_k tw_s1 81 rfl rfl, uX4⟩
theorem pX7_71 : t_FP RX7 71 4 2 .int false := ⟨RX4, TX4, 3, tyX4, rfl, by decide, tw_k tw_s1 81 rfl rfl, uX4, tyX4_ok, nmX4, by decide +kernel, rfl, fun h => by cases h⟩
theorem fX4_18 : t_FL RX4 18 4 2 := ⟨RX4, TX4, 3, rfl, by decide, tw_k tw_s1 82 rfl rfl, uX4⟩
theorem pX4_18 : t_FP RX4 18 4 2 .int false := ⟨RX4, TX4, 3, tyX4, rfl, by decide, tw_k tw_s1 82 rfl rfl, uX4, tyX4_ok, nmX4, by decide +kernel, rfl, fun h => by cases h⟩
theorem fX5_96 : t_FL RX5 96 4 2 := ⟨RX4, TX4, 3, rfl, by decide, tw_k tw_s1 83 rfl rfl, uX4⟩
theorem pX5_96 : t_FP RX5 96 4 2 .int false := ⟨RX4, TX4, 3, tyX4, rfl, by decide, tw_k tw_s1 83 rfl rfl, uX4, tyX4_ok, nmX4, by decide +kernel, rfl, fun h => by cases h⟩
theorem fX8_100 : t_FL RX8 100 4 2 := ⟨RX4, TX4, 3, rfl, by decide, tw_k tw_s1 84 rfl rfl, uX4⟩
theorem pX8_100 : t_FP RX8 100 4 2 .int false := ⟨RX4, TX4, 3, tyX4, rfl, by decide, tw_k tw_s1 84 rfl rfl, uX4, tyX4_ok, nmX4, by decide +kernel, rfl, fun h => by cases h⟩
theorem fX2_11 : t_FL RX2 11 2 0 := ⟨RX2, TX2, 2, rfl, by decide, tw_k tw_s1 98 rfl rfl, uX2⟩
theorem pX2_11 : t_FP RX2 11 2 0 (.array .int) false := ⟨RX2, TX2, 2, tyX2, rfl, by decide, tw_k tw_s1 98 rfl rfl, uX2, tyX2_ok, nmX2, by decide +kernel, rfl, fun h => by cases h⟩
theorem fX2_15 : t_FL RX2 15 2 1 := ⟨RX2, TX2, 2, rfl, by decide, tw_k tw_s1 99 rfl rfl, uX2⟩
theorem pX2_15 : t_FP RX2 15 2 1 .int false := ⟨RX2, TX2, 2, tyX2, rfl, by decide, tw_k tw_s1 99 rfl rfl, uX2, tyX2_ok, nmX2, by decide +kernel, rfl, fun h => by cases h⟩
theorem fX7_99 : t_FL RX7 99 2 1 := ⟨RX2, TX2, 2, rfl, by decide, tw_k tw_s1 100 rfl rfl, uX2⟩
theorem pX7_99 : t_FP RX7 99 2 1 .int false := ⟨RX2, TX2, 2, tyX2, rfl, by decide, tw_k tw_s1 100 rfl rfl, uX2, tyX2_ok, nmX2, by decide +kernel, rfl, fun h => by cases h⟩
theorem fX1_18 : t_FL RX1 18 2 1 := ⟨RX2, TX2, 2, rfl, by decide, tw_k tw_s1 101 rfl rfl, uX2⟩
theorem pX1_18 : t_FP RX1 18 2 1 .int false := ⟨RX2, TX2, 2, tyX2, rfl, by decide, tw_k tw_s1 101 rfl rfl, uX2, tyX2_ok, nmX2, by decide +kernel, rfl, fun h => by cases h⟩
theorem fX8_110 : t_FL RX8 110 2 1 := ⟨RX2, TX2, 2, rfl, by decide, tw_k tw_s1 102 rfl rfl, uX2⟩
theorem pX8_110 : t_FP RX8 110 2 1 .int false := ⟨RX2, TX2, 2, tyX2, rfl, by decide, tw_k tw_s1 102 rfl rfl, uX2, tyX2_ok, nmX2, by decide +kernel, rfl, fun h => by cases h⟩
theorem fX1_11 : t_FL RX1 11 1 0 := ⟨RX1, TX1, 2, rfl, by decide, tw_k tw_s1 114 rfl rfl, uX1⟩
theorem pX1_11 : t_FP RX1 11 1 0 (.array .int) true := ⟨RX1, TX1, 2, tyX1, rfl, by decide, tw_k tw_s1 114 rfl rfl, uX1, tyX1_ok, nmX1, by decide +kernel, rfl, fun _ => rfl⟩
theorem fX1_15 : t_FL RX1 15 1 1 := ⟨RX1, TX1, 2, rfl, by decide, tw_k tw_s1 115 rfl rfl, uX1⟩
theorem pX1_15 : t_FP RX1 15 1 1 (.array .int) true := ⟨RX1, TX1, 2, tyX1, rfl, by decide, tw_k tw_s1 115 rfl rfl, uX1, tyX1_ok, nmX1, by decide +kernel, rfl, fun _ => rfl⟩
theorem fX0_9 : t_FL RX0 9 0 0 := ⟨RX0, TX0, 3, rfl, by decide, tw_k tw_s1 127 rfl rfl, uX0⟩
theorem pX0_9 : t_FP RX0 9 0 0 (.array .int) true := ⟨RX0, TX0, 3, tyX0, rfl, by decide, tw_k tw_s1 127 rfl rfl, uX0, tyX0_ok, nmX0, by decide +kernel, rfl, fun _ => rfl⟩
theorem fX0_17 : t_FL RX0 17 0 1 := ⟨RX0, TX0, 3, rfl, by decide, tw_k tw_s1 128 rfl rfl, uX0⟩
theorem pX0_17 : t_FP RX0 17 0 1 .int false := ⟨RX0, TX0, 3, tyX0, rfl, by decide, tw_k tw_s1 128 rfl rfl, uX0, tyX0_ok, nmX0, by decide +kernel, rfl, fun h => by cases h⟩
theorem fX8_187 : t_FL RX8 187 0 1 := ⟨RX0, TX0, 3, rfl, by decide, tw_k tw_s1 129 rfl rfl, uX0⟩
theorem pX8_187 : t_FP RX8 187 0 1 .int false := ⟨RX0, TX0, 3, tyX0, rfl, by decide, tw_k tw_s1 129 rfl rfl, uX0, tyX0_ok, nmX0, by decide +kernel, rfl, fun h => by cases h⟩
theorem fX0_13 : t_FL RX0 13 0 2 := ⟨RX0, TX0, 3, rfl, by decide, tw_k tw_s1 130 rfl rfl, uX0⟩
theorem pX0_13 : t_FP RX0 13 0 2 .int false := ⟨RX0, TX0, 3, tyX0, rfl, by decide, tw_k tw_s1 130 rfl rfl, uX0, tyX0_ok, nmX0, by decide +kernel, rfl, fun h => by cases h⟩
theorem fX6_9 : t_FL RX6 9 6 0 := ⟨RX6, TX6, 19, rfl, by decide, tw_k tw_s1 144 rfl rfl, uX6⟩
theorem pX6_9 : t_FP RX6 9 6 0 (.array .int) true := ⟨RX6, TX6, 19, tyX6, rfl, by decide, tw_k tw_s1 144 rfl rfl, uX6, tyX6_ok, nmX6, by decide +kernel, rfl, fun _ => rfl⟩
theorem fX7_334 : t_FL RX7 334 6 0 := ⟨RX6, TX6, 19, rfl, by decide, tw_k tw_s1 145 rfl rfl, uX6⟩
theorem fX8_244 : t_FL RX8 244 6 0 := ⟨RX6, TX6, 19, rfl, by decide, tw_k tw_s1 146 rfl rfl, uX6⟩
theorem fX6_15 : t_FL RX6 15 6 1 := ⟨RX6, TX6, 19, rfl, by decide, tw_k tw_s1 147 rfl rfl, uX6⟩
theorem pX6_15 : t_FP RX6 15 6 1 (.array .int) true := ⟨RX6, TX6, 19, tyX6, rfl, by decide, tw_k tw_s1 147 rfl rfl, uX6, tyX6_ok, nmX6, by decide +kernel, rfl, fun _ => rfl⟩
theorem fX7_260 : t_FL RX7 260 6 1 := ⟨RX6, TX6, 19, rfl, by decide, tw_k tw_s1 148 rfl rfl, uX6⟩
theorem fX8_247 : t_FL RX8 247 6 1 := ⟨RX6, TX6, 19, rfl, by decide, tw_k tw_s1 149 rfl rfl, uX6⟩
theorem fX7_177 : t_FL RX7 177 6 2 := ⟨RX6, TX6, 19, rfl, by decide, tw_k tw_s1 150 rfl rfl, uX6⟩
theorem pX7_177 : t_FP RX7 177 6 2 .int false := ⟨RX6, TX6, 19, tyX6, rfl, by decide, tw_k tw_s1 150 rfl rfl, uX6, tyX6_ok, nmX6, by decide +kernel, rfl, fun h => by cases h⟩
theorem fX6_63 : t_FL RX6 63 6 2 := ⟨RX6, TX6, 19, rfl, by decide, tw_k tw_s1 151 rfl rfl, uX6⟩
theorem pX6_63 : t_FP RX6 63 6 2 .int false := ⟨RX6, TX6, 19, tyX6, rfl, by decide, tw_k tw_s1 151 rfl rfl, uX6, tyX6_ok, nmX6, by decide +kernel, rfl, fun h => by cases h⟩
theorem fX6_66 : t_FL RX6 66 6 3 := ⟨RX6, TX6, 19, rfl, by decide, tw_k tw_s1 152 rfl rfl, uX6⟩
theorem pX6_66 : t_FP RX6 66 6 3 .int false := ⟨RX6, TX6, 19, tyX6, rfl, by decide, tw_k tw_s1 152 rfl rfl, uX6, tyX6_ok, nmX6, by decide +kernel, rfl, fun h => by cases h⟩
theorem fX7_241 : t_FL RX7 241 6 3 := ⟨RX6, TX6, 19, rfl, by decide, tw_k tw_s1 153 rfl rfl, uX6⟩
theorem pX7_241 : t_FP RX7 241 6 3 .int false := ⟨RX6, TX6, 19, tyX6, rfl, by decide, tw_k tw_s1 153 rfl rfl, uX6, tyX6_ok, nmX6, by decide +kernel, rfl, fun h => by cases h⟩
theorem fX6_48 : t_FL RX6 48 6 4 := ⟨RX6, TX6, 19, rfl, by decide, tw_k tw_s1 154 rfl rfl, uX6⟩
theorem pX6_48 : t_FP RX6 48 6 4 .int false := ⟨RX6, TX6, 19, tyX6, rfl, by decide, tw_k tw_s1 154 rfl rfl, uX6, tyX6_ok, nmX6, by decide +kernel, rfl, fun h => by cases h⟩
theorem fX7_305 : t_FL RX7 305 6 4 := ⟨RX6, TX6, 19, rfl, by decide, tw_k tw_s1 155 rfl rfl, uX6⟩
theorem pX7_305 : t_FP RX7 305 6 4 .int false := ⟨RX6, TX6, 19, tyX6, rfl, by decide, tw_k tw_s1 155 rfl rfl, uX6, tyX6_ok, nmX6, by decide +kernel, rfl, fun h => by cases h⟩
theorem fX6_45 : t_FL RX6 45 6 5 := ⟨RX6, TX6, 19, rfl, by decide, tw_k tw_s1 156 rfl rfl, uX6⟩
theorem pX6_45 : t_FP RX6 45 6 5 .boolean false := ⟨RX6, TX6, 19, tyX6, rfl, by decide, tw_k tw_s1 156 rfl rfl, uX6, tyX6_ok, nmX6, by decide +kernel, rfl, fun h => by cases h⟩
theorem fX7_308 : t_FL RX7 308 6 5 := ⟨RX6, TX6, 19, rfl, by decide, tw_k tw_s1 157 rfl rfl, uX6⟩
theorem pX7_308 : t_FP RX7 308 6 5 .boolean false := ⟨RX6, TX6, 19, tyX6, rfl, by decide, tw_k tw_s1 157 rfl rfl, uX6, tyX6_ok, nmX6, by decide +kernel, rfl, fun h => by cases h⟩
theorem fX6_51 : t_FL RX6 51 6 6 := ⟨RX6, TX6, 19, rfl, by decide, tw_k tw_s1 158 rfl rfl, uX6⟩
theorem pX6_51 : t_FP RX6 51 6 6 .boolean false := ⟨RX6, TX6, 19, tyX6, rfl, by decide, tw_k tw_s1 158 rfl rfl, uX6, tyX6_ok, nmX6, by decide +kernel, rfl, fun h => by cases h⟩
theorem fX7_311 : t_FL RX7 311 6 6 := ⟨RX6, TX6, 19, rfl, by decide, tw_k tw_s1 159 rfl rfl, uX6⟩
theorem pX7_311 : t_FP RX7 311 6 6 .boolean false := ⟨RX6, TX6, 19, tyX6, rfl, by decide, tw_k tw_s1 159 rfl rfl, uX6, tyX6_ok, nmX6, by decide +kernel, rfl, fun h => by cases h⟩
theorem fX6_54 : t_FL RX6 54 6 7 := ⟨RX6, TX6, 19, rfl, by decide, tw_k tw_s1 160 rfl rfl, uX6⟩
theorem pX6_54 : t_FP RX6 54 6 7 .int false := ⟨RX6, TX6, 19, tyX6, rfl, by decide, tw_k tw_s1 160 rfl rfl, uX6, tyX6_ok, nmX6, by decide +kernel, rfl, fun h => by cases h⟩
theorem fX7_402 : t_FL RX7 402 6 7 := ⟨RX6, TX6, 19, rfl, by decide, tw_k tw_s1 161 rfl rfl, uX6⟩
theorem pX7_402 : t_FP RX7 402 6 7 .int false := ⟨RX6, TX6, 19, tyX6, rfl, by decide, tw_k tw_s1 161 rfl rfl, uX6, tyX6_ok, nmX6, by decide +kernel, rfl, fun h => by cases h⟩
theorem fX7_114 : t_FL RX7 114 6 8 := ⟨RX6, TX6, 19, rfl, by decide, tw_k tw_s1 162 rfl rfl, uX6⟩
theorem pX7_114 : t_FP RX7 114 6 8 .int false := ⟨RX6, TX6, 19, tyX6, rfl, by decide, tw_k tw_s1 162 rfl rfl, uX6, tyX6_ok, nmX6, by decide +kernel, rfl, fun h => by cases h⟩
theorem fX6_69 : t_FL RX6 69 6 8 := ⟨RX6, TX6, 19, rfl, by decide, tw_k tw_s1 163 rfl rfl, uX6⟩
theorem pX6_69 : t_FP RX6 69 6 8 .int false := ⟨RX6, TX6, 19, tyX6, rfl, by decide, tw_k tw_s1 163 rfl rfl, uX6, tyX6_ok, nmX6, by decide +kernel, rfl, fun h => by cases h⟩
theorem fX6_72 : t_FL RX6 72 6 9 := ⟨RX6, TX6, 19, rfl, by decide, tw_k tw_s1 164 rfl rfl, uX6⟩
theorem pX6_72 : t_FP RX6 72 6 9 .int false := ⟨RX6, TX6, 19, tyX6, rfl, by decide, tw_k tw_s1 164 rfl rfl, uX6, tyX6_ok, nmX6, by decide +kernel, rfl, fun h => by cases h⟩
theorem fX7_244 : t_FL RX7 244 6 9 := ⟨RX6, TX6, 19, rfl, by decide, tw_k tw_s1 165 rfl rfl, uX6⟩
theorem pX7_244 : t_FP RX7 244 6 9 .int false := ⟨RX6, TX6, 19, tyX6, rfl, by decide, tw_k tw_s1 165 rfl rfl, uX6, tyX6_ok, nmX6, by decide +kernel, rfl, fun h => by cases h⟩
theorem fX6_75 : t_FL RX6 75 6 10 := ⟨RX6, TX6, 19, rfl, by decide, tw_k tw_s1 166 rfl rfl, uX6⟩
theorem pX6_75 : t_FP RX6 75 6 10 .int false := ⟨RX6, TX6, 19, tyX6, rfl, by decide, tw_k tw_s1 166 rfl rfl, uX6, tyX6_ok, nmX6, by decide +kernel, rfl, fun h => by cases h⟩
theorem fX7_257 : t_FL RX7 257 6 10 := ⟨RX6, TX6, 19, rfl, by decide, tw_k tw_s1 167 rfl rfl, uX6⟩
theorem pX7_257 : t_FP RX7 257 6 10 .int false := ⟨RX6, TX6, 19, tyX6, rfl, by decide, tw_k tw_s1 167 rfl rfl, uX6, tyX6_ok, nmX6, by decide +kernel, rfl, fun h => by cases h⟩
theorem fX6_78 : t_FL RX6 78 6 11 := ⟨RX6, TX6, 19, rfl, by decide, tw_k tw_s1 168 rfl rfl, uX6⟩
theorem pX6_78 : t_FP RX6 78 6 11 .int false := ⟨RX6, TX6, 19, tyX6, rfl, by decide, tw_k tw_s1 168 rfl rfl, uX6, tyX6_ok, nmX6, by decide +kernel, rfl, fun h => by cases h⟩
theorem fX7_247 : t_FL RX7 247 6 11 := ⟨RX6, TX6, 19, rfl, by decide, tw_k tw_s1 169 rfl rfl, uX6⟩
theorem pX7_247 : t_FP RX7 247 6 11 .int false := ⟨RX6, TX6, 19, tyX6, rfl, by decide, tw_k tw_s1 169 rfl rfl, uX6, tyX6_ok, nmX6, by decide +kernel, rfl, fun h => by cases h⟩
theorem fX6_26 : t_FL RX6 26 6 12 := ⟨RX6, TX6, 19, rfl, by decide, tw_k tw_s1 170 rfl rfl, uX6⟩
theorem pX6_26 : t_FP RX6 26 6 12 .int false := ⟨RX6, TX6, 19, tyX6, rfl, by decide, tw_k tw_s1 170 rfl rfl, uX6, tyX6_ok, nmX6, by decide +kernel, rfl, fun h => by cases h⟩
theorem fX7_317 : t_FL RX7 317 6 12 := ⟨RX6, TX6, 19, rfl, by decide, tw_k tw_s1 171 rfl rfl, uX6⟩
theorem pX7_317 : t_FP RX7 317 6 12 .int false := ⟨RX6, TX6, 19, tyX6, rfl, by decide, tw_k tw_s1 171 rfl rfl, uX6, tyX6_ok, nmX6, by decide +kernel, rfl, fun h => by cases h⟩
theorem fX6_30 : t_FL RX6 30 6 13 := ⟨RX6, TX6, 19, rfl, by decide, tw_k tw_s1 172 rfl rfl, uX6⟩
theorem pX6_30 : t_FP RX6 30 6 13 .int false := ⟨RX6, TX6, 19, tyX6, rfl, by decide, tw_k tw_s1 172 rfl rfl, uX6, tyX6_ok, nmX6, by decide +kernel, rfl, fun h => by cases h⟩
theorem fX7_320 : t_FL RX7 320 6 13 := ⟨RX6, TX6, 19, rfl, by decide, tw_k tw_s1 173 rfl rfl, uX6⟩
theorem pX7_320 : t_FP RX7 320 6 13 .int false := ⟨RX6, TX6, 19, tyX6, rfl, by decide, tw_k tw_s1 173 rfl rfl, uX6, tyX6_ok, nmX6, by decide +kernel, rfl, fun h => by cases h⟩
theorem fX6_39 : t_FL RX6 39 6 14 := ⟨RX6, TX6, 19, rfl, by decide, tw_k tw_s1 174 rfl rfl, uX6⟩
theorem pX6_39 : t_FP RX6 39 6 14 .boolean false := ⟨RX6, TX6, 19, tyX6, rfl, by decide, tw_k tw_s1 174 rfl rfl, uX6, tyX6_ok, nmX6, by decide +kernel, rfl, fun h => by cases h⟩
theorem fX7_323 : t_FL RX7 323 6 14 := ⟨RX6, TX6, 19, rfl, by decide, tw_k tw_s1 175 rfl rfl, uX6⟩
theorem pX7_323 : t_FP RX7 323 6 14 .boolean false := ⟨RX6, TX6, 19, tyX6, rfl, by decide, tw_k tw_s1 175 rfl rfl, uX6, tyX6_ok, nmX6, by decide +kernel, rfl, fun h => by cases h⟩
theorem fX6_42 : t_FL RX6 42 6 15 := ⟨RX6, TX6, 19, rfl, by decide, tw_k tw_s1 176 rfl rfl, uX6⟩
theorem pX6_42 : t_FP RX6 42 6 15 .int false := ⟨RX6, TX6, 19, tyX6, rfl, by decide, tw_k tw_s1 176 rfl rfl, uX6, tyX6_ok, nmX6, by decide +kernel, rfl, fun h => by cases h⟩
theorem fX7_405 : t_FL RX7 405 6 15 := ⟨RX6, TX6, 19, rfl, by decide, tw_k tw_s1 177 rfl rfl, uX6⟩
theorem pX7_405 : t_FP RX7 405 6 15 .int false := ⟨RX6, TX6, 19, tyX6, rfl, by decide, tw_k tw_s1 177 rfl rfl, uX6, tyX6_ok, nmX6, by decide +kernel, rfl, fun h => by cases h⟩
theorem fX6_22 : t_FL RX6 22 6 16 := ⟨RX6, TX6, 19, rfl, by decide, tw_k tw_s1 178 rfl rfl, uX6⟩
theorem pX6_22 : t_FP RX6 22 6 16 .boolean false := ⟨RX6, TX6, 19, tyX6, rfl, by decide, tw_k tw_s1 178 rfl rfl, uX6, tyX6_ok, nmX6, by decide +kernel, rfl, fun h => by cases h⟩
theorem fX6_33 : t_FL RX6 33 6 17 := ⟨RX6, TX6, 19, rfl, by decide, tw_k tw_s1 179 rfl rfl, uX6⟩
theorem pX6_33 : t_FP RX6 33 6 17 .int false := ⟨RX6, TX6, 19, tyX6, rfl, by decide, tw_k tw_s1 179 rfl rfl, uX6, tyX6_ok, nmX6, by decide +kernel, rfl, fun h => by cases h⟩
theorem fX6_36 : t_FL RX6 36 6 18 := ⟨RX6, TX6, 19, rfl, by decide, tw_k tw_s1 180 rfl rfl, uX6⟩
theorem pX6_36 : t_FP RX6 36 6 18 .int false := ⟨RX6, TX6, 19, tyX6, rfl, by decide, tw_k tw_s1 180 rfl rfl, uX6, tyX6_ok, nmX6, by decide +kernel, rfl, fun h => by cases h⟩
theorem fX3_22 : t_FL RX3 22 3 0 := ⟨RX3, TX3, 18, rfl, by decide, tw_k tw_s1 225 rfl rfl, uX3⟩
theorem pX3_22 : t_FP RX3 22 3 0 .int false := ⟨RX3, TX3, 18, tyX3, rfl, by decide, tw_k tw_s1 225 rfl rfl, uX3, tyX3_ok, nmX3, by decide +kernel, rfl, fun h => by cases h⟩
theorem fX7_103 : t_FL RX7 103 3 0 := ⟨RX3, TX3, 18, rfl, by decide, tw_k tw_s1 226 rfl rfl, uX3⟩
theorem pX7_103 : t_FP RX7 103 3 0 .int false := ⟨RX3, TX3, 18, tyX3, rfl, by decide, tw_k tw_s1 226 rfl rfl, uX3, tyX3_ok, nmX3, by decide +kernel, rfl, fun h => by cases h⟩
theorem fX3_40 : t_FL RX3 40 3 1 := ⟨RX3, TX3, 18, rfl, by decide, tw_k tw_s1 227 rfl rfl, uX3⟩
theorem pX3_40 : t_FP RX3 40 3 1 .int false := ⟨RX3, TX3, 18, tyX3, rfl, by decide, tw_k tw_s1 227 rfl rfl, uX3, tyX3_ok, nmX3, by decide +kernel, rfl, fun h => by cases h⟩
theorem fX7_250 : t_FL RX7 250 3 1 := ⟨RX3, TX3, 18, rfl, by decide, tw_k tw_s1 228 rfl rfl, uX3⟩
theorem pX7_250 : t_FP RX7 250 3 1 .int false := ⟨RX3, TX3, 18, tyX3, rfl, by decide, tw_k tw_s1 228 rfl rfl, uX3, tyX3_ok, nmX3, by decide +kernel, rfl, fun h => by cases h⟩
theorem fX3_28 : t_FL RX3 28 3 2 := ⟨RX3, TX3, 18, rfl, by decide, tw_k tw_s1 229 rfl rfl, uX3⟩
theorem pX3_28 : t_FP RX3 28 3 2 .int false := ⟨RX3, TX3, 18, tyX3, rfl, by decide, tw_k tw_s1 229 rfl rfl, uX3, tyX3_ok, nmX3, by decide +kernel, rfl, fun h => by cases h⟩
theorem fX7_266 : t_FL RX7 266 3 2 := ⟨RX3, TX3, 18, rfl, by decide, tw_k tw_s1 230 rfl rfl, uX3⟩
theorem pX7_266 : t_FP RX7 266 3 2 .int false := ⟨RX3, TX3, 18, tyX3, rfl, by decide, tw_k tw_s1 230 rfl rfl, uX3, tyX3_ok, nmX3, by decide +kernel, rfl, fun h => by cases h⟩
theorem fX3_34 : t_FL RX3 34 3 3 := ⟨RX3, TX3, 18, rfl, by decide, tw_k tw_s1 231 rfl rfl, uX3⟩
theorem pX3_34 : t_FP RX3 34 3 3 .int false := ⟨RX3, TX3, 18, tyX3, rfl, by decide, tw_k tw_s1 231 rfl rfl, uX3, tyX3_ok, nmX3, by decide +kernel, rfl, fun h => by cases h⟩
theorem fX7_222 : t_FL RX7 222 3 3 := ⟨RX3, TX3, 18, rfl, by decide, tw_k tw_s1 232 rfl rfl, uX3⟩
theorem pX7_222 : t_FP RX7 222 3 3 .int false := ⟨RX3, TX3, 18, tyX3, rfl, by decide, tw_k tw_s1 232 rfl rfl, uX3, tyX3_ok, nmX3, by decide +kernel, rfl, fun h => by cases h⟩
theorem fX3_9 : t_FL RX3 9 3 4 := ⟨RX3, TX3, 18, rfl, by decide, tw_k tw_s1 233 rfl rfl, uX3⟩
theorem pX3_9 : t_FP RX3 9 3 4 .int false := ⟨RX3, TX3, 18, tyX3, rfl, by decide, tw_k tw_s1 233 rfl rfl, uX3, tyX3_ok, nmX3, by decide +kernel, rfl, fun h => by cases h⟩
theorem fX7_235 : t_FL RX7 235 3 4 := ⟨RX3, TX3, 18, rfl, by decide, tw_k tw_s1 234 rfl rfl, uX3⟩
theorem pX7_235 : t_FP RX7 235 3 4 .int false := ⟨RX3, TX3, 18, tyX3, rfl, by decide, tw_k tw_s1 234 rfl rfl, uX3, tyX3_ok, nmX3, by decide +kernel, rfl, fun h => by cases h⟩
theorem fX7_106 : t_FL RX7 106 3 5 := ⟨RX3, TX3, 18, rfl, by decide, tw_k tw_s1 235 rfl rfl, uX3⟩
theorem pX7_106 : t_FP RX7 106 3 5 .boolean false := ⟨RX3, TX3, 18, tyX3, rfl, by decide, tw_k tw_s1 235 rfl rfl, uX3, tyX3_ok, nmX3, by decide +kernel, rfl, fun h => by cases h⟩
theorem fX3_43 : t_FL RX3 43 3 5 := ⟨RX3, TX3, 18, rfl, by decide, tw_k tw_s1 236 rfl rfl, uX3⟩
theorem pX3_43 : t_FP RX3 43 3 5 .boolean false := ⟨RX3, TX3, 18, tyX3, rfl, by decide, tw_k tw_s1 236 rfl rfl, uX3, tyX3_ok, nmX3, by decide +kernel, rfl, fun h => by cases h⟩
theorem fX3_46 : t_FL RX3 46 3 6 := ⟨RX3, TX3, 18, rfl, by decide, tw_k tw_s1 237 rfl rfl, uX3⟩
theorem pX3_46 : t_FP RX3 46 3 6 .int false := ⟨RX3, TX3, 18, tyX3, rfl, by decide, tw_k tw_s1 237 rfl rfl, uX3, tyX3_ok, nmX3, by decide +kernel, rfl, fun h => by cases h⟩
theorem fX7_238 : t_FL RX7 238 3 6 := ⟨RX3, TX3, 18, rfl, by decide, tw_k tw_s1 238 rfl rfl, uX3⟩
theorem pX7_238 : t_FP RX7 238 3 6 .int false := ⟨RX3, TX3, 18, tyX3, rfl, by decide, tw_k tw_s1 238 rfl rfl, uX3, tyX3_ok, nmX3, by decide +kernel, rfl, fun h => by cases h⟩
theorem fX3_49 : t_FL RX3 49 3 7 := ⟨RX3, TX3, 18, rfl, by decide, tw_k tw_s1 239 rfl rfl, uX3⟩
theorem pX3_49 : t_FP RX3 49 3 7 .int false := ⟨RX3, TX3, 18, tyX3, rfl, by decide, tw_k tw_s1 239 rfl rfl, uX3, tyX3_ok, nmX3, by decide +kernel, rfl, fun h => by cases h⟩
theorem fX7_225 : t_FL RX7 225 3 7 := ⟨RX3, TX3, 18, rfl, by decide, tw_k tw_s2 0 rfl rfl, uX3⟩
theorem pX7_225 : t_FP RX7 225 3 7 .int false := ⟨RX3, TX3, 18, tyX3, rfl, by decide, tw_k tw_s2 0 rfl rfl, uX3, tyX3_ok, nmX3, by decide +kernel, rfl, fun h => by cases h⟩
theorem fX3_52 : t_FL RX3 52 3 8 := ⟨RX3, TX3, 18, rfl, by decide, tw_k tw_s2 1 rfl rfl, uX3⟩
theorem pX3_52 : t_FP RX3 52 3 8 .boolean false := ⟨RX3, TX3, 18, tyX3, rfl, by decide, tw_k tw_s2 1 rfl rfl, uX3, tyX3_ok, nmX3, by decide +kernel, rfl, fun h => by cases h⟩
theorem fX7_228 : t_FL RX7 228 3 8 := ⟨RX3, TX3, 18, rfl, by decide, tw_k tw_s2 2 rfl rfl, uX3⟩
theorem pX7_228 : t_FP RX7 228 3 8 .boolean false := ⟨RX3, TX3, 18, tyX3, rfl, by decide, tw_k tw_s2 2 rfl rfl, uX3, tyX3_ok, nmX3, by decide +kernel, rfl, fun h => by cases h⟩
theorem fX7_111 : t_FL RX7 111 3 9 := ⟨RX3, TX3, 18, rfl, by decide, tw_k tw_s2 3 rfl rfl, uX3⟩
theorem pX7_111 : t_FP RX7 111 3 9 .int false := ⟨RX3, TX3, 18, tyX3, rfl, by decide, tw_k tw_s2 3 rfl rfl, uX3, tyX3_ok, nmX3, by decide +kernel, rfl, fun h => by cases h⟩
theorem fX3_55 : t_FL RX3 55 3 9 := ⟨RX3, TX3, 18, rfl, by decide, tw_k tw_s2 4 rfl rfl, uX3⟩
theorem pX3_55 : t_FP RX3 55 3 9 .int false := ⟨RX3, TX3, 18, tyX3, rfl, by decide, tw_k tw_s2 4 rfl rfl, uX3, tyX3_ok, nmX3, by decide +kernel, rfl, fun h => by cases h⟩
theorem fX3_58 : t_FL RX3 58 3 10 := ⟨RX3, TX3, 18, rfl, by decide, tw_k tw_s2 5 rfl rfl, uX3⟩
theorem pX3_58 : t_FP RX3 58 3 10 .int false := ⟨RX3, TX3, 18, tyX3, rfl, by decide, tw_k tw_s2 5 rfl rfl, uX3, tyX3_ok, nmX3, by decide +kernel, rfl, fun h => by cases h⟩
theorem fX7_213 : t_FL RX7 213 3 10 := ⟨RX3, TX3, 18, rfl, by decide, tw_k tw_s2 6 rfl rfl, uX3⟩
theorem pX7_213 : t_FP RX7 213 3 10 .int false := ⟨RX3, TX3, 18, tyX3, rfl, by decide, tw_k tw_s2 6 rfl rfl, uX3, tyX3_ok, nmX3, by decide +kernel, rfl, fun h => by cases h⟩
theorem fX3_15 : t_FL RX3 15 3 11 := ⟨RX3, TX3, 18, rfl, by decide, tw_k tw_s2 7 rfl rfl, uX3⟩
theorem pX3_15 : t_FP RX3 15 3 11 .int false := ⟨RX3, TX3, 18, tyX3, rfl, by decide, tw_k tw_s2 7 rfl rfl, uX3, tyX3_ok, nmX3, by decide +kernel, rfl, fun h => by cases h⟩
theorem fX7_216 : t_FL RX7 216 3 11 := ⟨RX3, TX3, 18, rfl, by decide, tw_k tw_s2 8 rfl rfl, uX3⟩
theorem pX7_216 : t_FP RX7 216 3 11 .int false := ⟨RX3, TX3, 18, tyX3, rfl, by decide, tw_k tw_s2 8 rfl rfl, uX3, tyX3_ok, nmX3, by decide +kernel, rfl, fun h => by cases h⟩
theorem fX3_61 : t_FL RX3 61 3 12 := ⟨RX3, TX3, 18, rfl, by decide, tw_k tw_s2 9 rfl rfl, uX3⟩
theorem pX3_61 : t_FP RX3 61 3 12 .int false := ⟨RX3, TX3, 18, tyX3, rfl, by decide, tw_k tw_s2 9 rfl rfl, uX3, tyX3_ok, nmX3, by decide +kernel, rfl, fun h => by cases h⟩
theorem fX7_219 : t_FL RX7 219 3 12 := ⟨RX3, TX3, 18, rfl, by decide, tw_k tw_s2 10 rfl rfl, uX3⟩
theorem pX7_219 : t_FP RX7 219 3 12 .int false := ⟨RX3, TX3, 18, tyX3, rfl, by decide, tw_k tw_s2 10 rfl rfl, uX3, tyX3_ok, nmX3, by decide +kernel, rfl, fun h => by cases h⟩
theorem fX7_81 : t_FL RX7 81 3 13 := ⟨RX3, TX3, 18, rfl, by decide, tw_k tw_s2 11 rfl rfl, uX3⟩
theorem pX7_81 : t_FP RX7 81 3 13 .int false := ⟨RX3, TX3, 18, tyX3, rfl, by decide, tw_k tw_s2 11 rfl rfl, uX3, tyX3_ok, nmX3, by decide +kernel, rfl, fun h => by cases h⟩
theorem fX3_67 : t_FL RX3 67 3 13 := ⟨RX3, TX3, 18, rfl, by decide, tw_k tw_s2 12 rfl rfl, uX3⟩
theorem pX3_67 : t_FP RX3 67 3 13 .int false := ⟨RX3, TX3, 18, tyX3, rfl, by decide, tw_k tw_s2 12 rfl rfl, uX3, tyX3_ok, nmX3, by decide +kernel, rfl, fun h => by cases h⟩
theorem fX8_211 : t_FL RX8 211 3 13 := ⟨RX3, TX3, 18, rfl, by decide, tw_k tw_s2 13 rfl rfl, uX3⟩
theorem pX8_211 : t_FP RX8 211 3 13 .int false := ⟨RX3, TX3, 18, tyX3, rfl, by decide, tw_k tw_s2 13 rfl rfl, uX3, tyX3_ok, nmX3, by decide +kernel, rfl, fun h => by cases h⟩
theorem fX3_18 : t_FL RX3 18 3 14 := ⟨RX3, TX3, 18, rfl, by decide, tw_k tw_s2 14 rfl rfl, uX3⟩
theorem pX3_18 : t_FP RX3 18 3 14 .boolean false := ⟨RX3, TX3, 18, tyX3, rfl, by decide, tw_k tw_s2 14 rfl rfl, uX3, tyX3_ok, nmX3, by decide +kernel, rfl, fun h => by cases h⟩
theorem fX7_210 : t_FL RX7 210 3 14 := ⟨RX3, TX3, 18, rfl, by decide, tw_k tw_s2 15 rfl rfl, uX3⟩
theorem pX7_210 : t_FP RX7 210 3 14 .boolean false := ⟨RX3, TX3, 18, tyX3, rfl, by decide, tw_k tw_s2 15 rfl rfl, uX3, tyX3_ok, nmX3, by decide +kernel, rfl, fun h => by cases h⟩
theorem fX8_172 : t_FL RX8 172 3 14 := ⟨RX3, TX3, 18, rfl, by decide, tw_k tw_s2 16 rfl rfl, uX3⟩
theorem pX8_172 : t_FP RX8 172 3 14 .boolean false := ⟨RX3, TX3, 18, tyX3, rfl, by decide, tw_k tw_s2 16 rfl rfl, uX3, tyX3_ok, nmX3, by decide +kernel, rfl, fun h => by cases h⟩
theorem fX3_25 : t_FL RX3 25 3 15 := ⟨RX3, TX3, 18, rfl, by decide, tw_k tw_s2 17 rfl rfl, uX3⟩
theorem pX3_25 : t_FP RX3 25 3 15 .int false := ⟨RX3, TX3, 18, tyX3, rfl, by decide, tw_k tw_s2 17 rfl rfl, uX3, tyX3_ok, nmX3, by decide +kernel, rfl, fun h => by cases h⟩
theorem fX3_31 : t_FL RX3 31 3 16 := ⟨RX3, TX3, 18, rfl, by decide, tw_k tw_s2 18 rfl rfl, uX3⟩
theorem pX3_31 : t_FP RX3 31 3 16 .int false := ⟨RX3, TX3, 18, tyX3, rfl, by decide, tw_k tw_s2 18 rfl rfl, uX3, tyX3_ok, nmX3, by decide +kernel, rfl, fun h => by cases h⟩
theorem fX3_37 : t_FL RX3 37 3 17 := ⟨RX3, TX3, 18, rfl, by decide, tw_k tw_s2 19 rfl rfl, uX3⟩
theorem pX3_37 : t_FP RX3 37 3 17 .int false := ⟨RX3, TX3, 18, tyX3, rfl, by decide, tw_k tw_s2 19 rfl rfl, uX3, tyX3_ok, nmX3, by decide +kernel, rfl, fun h => by cases h⟩
theorem fX7_11 : t_FL RX7 11 7 0 := ⟨RX7, TX7, 16, rfl, by decide, tw_k tw_s2 103 rfl rfl, uX7⟩
theorem pX7_11 : t_FP RX7 11 7 0 (.array (.object "WorkEnds$Node")) true := ⟨RX7, TX7, 16, tyX7, rfl, by decide, tw_k tw_s2 103 rfl rfl, uX7, tyX7_ok, nmX7, by decide +kernel, rfl, fun _ => rfl⟩
theorem fX8_168 : t_FL RX8 168 7 0 := ⟨RX7, TX7, 16, rfl, by decide, tw_k tw_s2 104 rfl rfl, uX7⟩
theorem fX7_17 : t_FL RX7 17 7 1 := ⟨RX7, TX7, 16, rfl, by decide, tw_k tw_s2 105 rfl rfl, uX7⟩
theorem pX7_17 : t_FP RX7 17 7 1 (.array .int) true := ⟨RX7, TX7, 16, tyX7, rfl, by decide, tw_k tw_s2 105 rfl rfl, uX7, tyX7_ok, nmX7, by decide +kernel, rfl, fun _ => rfl⟩
theorem fX5_108 : t_FL RX5 108 7 1 := ⟨RX7, TX7, 16, rfl, by decide, tw_k tw_s2 106 rfl rfl, uX7⟩
theorem fX8_89 : t_FL RX8 89 7 1 := ⟨RX7, TX7, 16, rfl, by decide, tw_k tw_s2 107 rfl rfl, uX7⟩
theorem fX7_24 : t_FL RX7 24 7 2 := ⟨RX7, TX7, 16, rfl, by decide, tw_k tw_s2 108 rfl rfl, uX7⟩
theorem pX7_24 : t_FP RX7 24 7 2 (.object "WorkEnds$Plan") true := ⟨RX7, TX7, 16, tyX7, rfl, by decide, tw_k tw_s2 108 rfl rfl, uX7, tyX7_ok, nmX7, by decide +kernel, rfl, fun _ => rfl⟩
theorem fX5_93 : t_FL RX5 93 7 2 := ⟨RX7, TX7, 16, rfl, by decide, tw_k tw_s2 109 rfl rfl, uX7⟩
theorem fX8_96 : t_FL RX8 96 7 2 := ⟨RX7, TX7, 16, rfl, by decide, tw_k tw_s2 110 rfl rfl, uX7⟩
theorem fX7_31 : t_FL RX7 31 7 3 := ⟨RX7, TX7, 16, rfl, by decide, tw_k tw_s2 111 rfl rfl, uX7⟩
theorem pX7_31 : t_FP RX7 31 7 3 (.object "WorkEnds$Letters") true := ⟨RX7, TX7, 16, tyX7, rfl, by decide, tw_k tw_s2 111 rfl rfl, uX7, tyX7_ok, nmX7, by decide +kernel, rfl, fun _ => rfl⟩
theorem fX8_106 : t_FL RX8 106 7 3 := ⟨RX7, TX7, 16, rfl, by decide, tw_k tw_s2 112 rfl rfl, uX7⟩
theorem fX7_38 : t_FL RX7 38 7 4 := ⟨RX7, TX7, 16, rfl, by decide, tw_k tw_s2 113 rfl rfl, uX7⟩
theorem pX7_38 : t_FP RX7 38 7 4 (.object "WorkEnds$Ledger") true := ⟨RX7, TX7, 16, tyX7, rfl, by decide, tw_k tw_s2 113 rfl rfl, uX7, tyX7_ok, nmX7, by decide +kernel, rfl, fun _ => rfl⟩
theorem fX8_155 : t_FL RX8 155 7 4 := ⟨RX7, TX7, 16, rfl, by decide, tw_k tw_s2 114 rfl rfl, uX7⟩
theorem fX7_45 : t_FL RX7 45 7 5 := ⟨RX7, TX7, 16, rfl, by decide, tw_k tw_s2 115 rfl rfl, uX7⟩
theorem pX7_45 : t_FP RX7 45 7 5 (.object "WorkEnds$Events") true := ⟨RX7, TX7, 16, tyX7, rfl, by decide, tw_k tw_s2 115 rfl rfl, uX7, tyX7_ok, nmX7, by decide +kernel, rfl, fun _ => rfl⟩
theorem fX8_183 : t_FL RX8 183 7 5 := ⟨RX7, TX7, 16, rfl, by decide, tw_k tw_s2 116 rfl rfl, uX7⟩
theorem fX7_52 : t_FL RX7 52 7 6 := ⟨RX7, TX7, 16, rfl, by decide, tw_k tw_s2 117 rfl rfl, uX7⟩
theorem pX7_52 : t_FP RX7 52 7 6 (.object "WorkEnds$Watches") true := ⟨RX7, TX7, 16, tyX7, rfl, by decide, tw_k tw_s2 117 rfl rfl, uX7, tyX7_ok, nmX7, by decide +kernel, rfl, fun _ => rfl⟩
theorem fX8_123 : t_FL RX8 123 7 6 := ⟨RX7, TX7, 16, rfl, by decide, tw_k tw_s2 118 rfl rfl, uX7⟩
theorem fX7_61 : t_FL RX7 61 7 7 := ⟨RX7, TX7, 16, rfl, by decide, tw_k tw_s2 119 rfl rfl, uX7⟩
theorem pX7_61 : t_FP RX7 61 7 7 .int false := ⟨RX7, TX7, 16, tyX7, rfl, by decide, tw_k tw_s2 119 rfl rfl, uX7, tyX7_ok, nmX7, by decide +kernel, rfl, fun h => by cases h⟩
theorem fX8_57 : t_FL RX8 57 7 7 := ⟨RX7, TX7, 16, rfl, by decide, tw_k tw_s2 120 rfl rfl, uX7⟩
theorem pX8_57 : t_FP RX8 57 7 7 .int false := ⟨RX7, TX7, 16, tyX7, rfl, by decide, tw_k tw_s2 120 rfl rfl, uX7, tyX7_ok, nmX7, by decide +kernel, rfl, fun h => by cases h⟩
theorem fX7_65 : t_FL RX7 65 7 8 := ⟨RX7, TX7, 16, rfl, by decide, tw_k tw_s2 121 rfl rfl, uX7⟩
theorem pX7_65 : t_FP RX7 65 7 8 .int false := ⟨RX7, TX7, 16, tyX7, rfl, by decide, tw_k tw_s2 121 rfl rfl, uX7, tyX7_ok, nmX7, by decide +kernel, rfl, fun h => by cases h⟩
theorem fX8_114 : t_FL RX8 114 7 8 := ⟨RX7, TX7, 16, rfl, by decide, tw_k tw_s2 122 rfl rfl, uX7⟩
theorem pX8_114 : t_FP RX8 114 7 8 .int false := ⟨RX7, TX7, 16, tyX7, rfl, by decide, tw_k tw_s2 122 rfl rfl, uX7, tyX7_ok, nmX7, by decide +kernel, rfl, fun h => by cases h⟩
theorem fX7_68 : t_FL RX7 68 7 9 := ⟨RX7, TX7, 16, rfl, by decide, tw_k tw_s2 123 rfl rfl, uX7⟩
theorem pX7_68 : t_FP RX7 68 7 9 .int false := ⟨RX7, TX7, 16, tyX7, rfl, by decide, tw_k tw_s2 123 rfl rfl, uX7, tyX7_ok, nmX7, by decide +kernel, rfl, fun h => by cases h⟩
theorem fX8_223 : t_FL RX8 223 7 9 := ⟨RX7, TX7, 16, rfl, by decide, tw_k tw_s2 124 rfl rfl, uX7⟩
theorem pX8_223 : t_FP RX8 223 7 9 .int false := ⟨RX7, TX7, 16, tyX7, rfl, by decide, tw_k tw_s2 124 rfl rfl, uX7, tyX7_ok, nmX7, by decide +kernel, rfl, fun h => by cases h⟩
theorem fX7_87 : t_FL RX7 87 7 10 := ⟨RX7, TX7, 16, rfl, by decide, tw_k tw_s2 125 rfl rfl, uX7⟩
theorem pX7_87 : t_FP RX7 87 7 10 .int false := ⟨RX7, TX7, 16, tyX7, rfl, by decide, tw_k tw_s2 125 rfl rfl, uX7, tyX7_ok, nmX7, by decide +kernel, rfl, fun h => by cases h⟩
theorem fX8_241 : t_FL RX8 241 7 10 := ⟨RX7, TX7, 16, rfl, by decide, tw_k tw_s2 126 rfl rfl, uX7⟩
theorem pX8_241 : t_FP RX8 241 7 10 .int false := ⟨RX7, TX7, 16, tyX7, rfl, by decide, tw_k tw_s2 126 rfl rfl, uX7, tyX7_ok, nmX7, by decide +kernel, rfl, fun h => by cases h⟩
theorem fX7_90 : t_FL RX7 90 7 11 := ⟨RX7, TX7, 16, rfl, by decide, tw_k tw_s2 127 rfl rfl, uX7⟩
theorem pX7_90 : t_FP RX7 90 7 11 .int false := ⟨RX7, TX7, 16, tyX7, rfl, by decide, tw_k tw_s2 127 rfl rfl, uX7, tyX7_ok, nmX7, by decide +kernel, rfl, fun h => by cases h⟩
theorem fX7_93 : t_FL RX7 93 7 12 := ⟨RX7, TX7, 16, rfl, by decide, tw_k tw_s2 128 rfl rfl, uX7⟩
theorem pX7_93 : t_FP RX7 93 7 12 .int false := ⟨RX7, TX7, 16, tyX7, rfl, by decide, tw_k tw_s2 128 rfl rfl, uX7, tyX7_ok, nmX7, by decide +kernel, rfl, fun h => by cases h⟩
theorem fX8_162 : t_FL RX8 162 7 12 := ⟨RX7, TX7, 16, rfl, by decide, tw_k tw_s2 129 rfl rfl, uX7⟩
theorem pX8_162 : t_FP RX8 162 7 12 .int false := ⟨RX7, TX7, 16, tyX7, rfl, by decide, tw_k tw_s2 129 rfl rfl, uX7, tyX7_ok, nmX7, by decide +kernel, rfl, fun h => by cases h⟩
theorem fX7_153 : t_FL RX7 153 7 13 := ⟨RX7, TX7, 16, rfl, by decide, tw_k tw_s2 130 rfl rfl, uX7⟩
theorem pX7_153 : t_FP RX7 153 7 13 .int false := ⟨RX7, TX7, 16, tyX7, rfl, by decide, tw_k tw_s2 130 rfl rfl, uX7, tyX7_ok, nmX7, by decide +kernel, rfl, fun h => by cases h⟩
theorem fX7_156 : t_FL RX7 156 7 14 := ⟨RX7, TX7, 16, rfl, by decide, tw_k tw_s2 131 rfl rfl, uX7⟩
theorem pX7_156 : t_FP RX7 156 7 14 .int false := ⟨RX7, TX7, 16, tyX7, rfl, by decide, tw_k tw_s2 131 rfl rfl, uX7, tyX7_ok, nmX7, by decide +kernel, rfl, fun h => by cases h⟩
theorem fX7_159 : t_FL RX7 159 7 15 := ⟨RX7, TX7, 16, rfl, by decide, tw_k tw_s2 132 rfl rfl, uX7⟩
theorem pX7_159 : t_FP RX7 159 7 15 .int false := ⟨RX7, TX7, 16, tyX7, rfl, by decide, tw_k tw_s2 132 rfl rfl, uX7, tyX7_ok, nmX7, by decide +kernel, rfl, fun h => by cases h⟩
theorem fX8_10 : t_FL RX8 10 8 0 := ⟨RX8, TX8, 6, rfl, by decide, tw_k tw_s2 167 rfl rfl, uX8⟩
theorem pX8_10 : t_FP RX8 10 8 0 (.object "WorkEnds$Tape") true := ⟨RX8, TX8, 6, tyX8, rfl, by decide, tw_k tw_s2 167 rfl rfl, uX8, tyX8_ok, nmX8, by decide +kernel, rfl, fun _ => rfl⟩
theorem fX8_19 : t_FL RX8 19 8 1 := ⟨RX8, TX8, 6, rfl, by decide, tw_k tw_s2 168 rfl rfl, uX8⟩
theorem pX8_19 : t_FP RX8 19 8 1 (.object "WorkEnds$World") true := ⟨RX8, TX8, 6, tyX8, rfl, by decide, tw_k tw_s2 168 rfl rfl, uX8, tyX8_ok, nmX8, by decide +kernel, rfl, fun _ => rfl⟩
theorem fX8_23 : t_FL RX8 23 8 2 := ⟨RX8, TX8, 6, rfl, by decide, tw_k tw_s2 169 rfl rfl, uX8⟩
theorem pX8_23 : t_FP RX8 23 8 2 (.object "WorkEnds$World") true := ⟨RX8, TX8, 6, tyX8, rfl, by decide, tw_k tw_s2 169 rfl rfl, uX8, tyX8_ok, nmX8, by decide +kernel, rfl, fun _ => rfl⟩
theorem fX8_26 : t_FL RX8 26 8 3 := ⟨RX8, TX8, 6, rfl, by decide, tw_k tw_s2 170 rfl rfl, uX8⟩
theorem pX8_26 : t_FP RX8 26 8 3 (.array (.object "WorkEnds$World")) true := ⟨RX8, TX8, 6, tyX8, rfl, by decide, tw_k tw_s2 170 rfl rfl, uX8, tyX8_ok, nmX8, by decide +kernel, rfl, fun _ => rfl⟩
theorem fX8_73 : t_FL RX8 73 8 4 := ⟨RX8, TX8, 6, rfl, by decide, tw_k tw_s2 171 rfl rfl, uX8⟩
theorem pX8_73 : t_FP RX8 73 8 4 .int false := ⟨RX8, TX8, 6, tyX8, rfl, by decide, tw_k tw_s2 171 rfl rfl, uX8, tyX8_ok, nmX8, by decide +kernel, rfl, fun h => by cases h⟩
theorem fX8_30 : t_FL RX8 30 8 5 := ⟨RX8, TX8, 6, rfl, by decide, tw_k tw_s2 172 rfl rfl, uX8⟩
theorem pX8_30 : t_FP RX8 30 8 5 .int false := ⟨RX8, TX8, 6, tyX8, rfl, by decide, tw_k tw_s2 172 rfl rfl, uX8, tyX8_ok, nmX8, by decide +kernel, rfl, fun h => by cases h⟩
theorem fX9_7 : t_FL RX9 7 9 0 := ⟨RX9, TX9, 19, rfl, by decide, tw_k tw_s5 187 rfl rfl, uX9⟩
theorem pX9_7 : t_FP RX9 7 9 0 (.array .int) false := ⟨RX9, TX9, 19, tyX9, rfl, by decide, tw_k tw_s5 187 rfl rfl, uX9, tyX9_ok, nmX9, by decide +kernel, rfl, fun h => by cases h⟩
theorem fX9_13 : t_FL RX9 13 9 1 := ⟨RX9, TX9, 19, rfl, by decide, tw_k tw_s5 188 rfl rfl, uX9⟩
theorem pX9_13 : t_FP RX9 13 9 1 (.array .int) false := ⟨RX9, TX9, 19, tyX9, rfl, by decide, tw_k tw_s5 188 rfl rfl, uX9, tyX9_ok, nmX9, by decide +kernel, rfl, fun h => by cases h⟩
theorem fX9_16 : t_FL RX9 16 9 2 := ⟨RX9, TX9, 19, rfl, by decide, tw_k tw_s5 189 rfl rfl, uX9⟩
theorem pX9_16 : t_FP RX9 16 9 2 (.array .int) true := ⟨RX9, TX9, 19, tyX9, rfl, by decide, tw_k tw_s5 189 rfl rfl, uX9, tyX9_ok, nmX9, by decide +kernel, rfl, fun _ => rfl⟩
theorem fX9_236 : t_FL RX9 236 9 3 := ⟨RX9, TX9, 19, rfl, by decide, tw_k tw_s5 190 rfl rfl, uX9⟩
theorem pX9_236 : t_FP RX9 236 9 3 .int false := ⟨RX9, TX9, 19, tyX9, rfl, by decide, tw_k tw_s5 190 rfl rfl, uX9, tyX9_ok, nmX9, by decide +kernel, rfl, fun h => by cases h⟩
theorem fX9_40 : t_FL RX9 40 9 4 := ⟨RX9, TX9, 19, rfl, by decide, tw_k tw_s5 191 rfl rfl, uX9⟩
theorem pX9_40 : t_FP RX9 40 9 4 .int false := ⟨RX9, TX9, 19, tyX9, rfl, by decide, tw_k tw_s5 191 rfl rfl, uX9, tyX9_ok, nmX9, by decide +kernel, rfl, fun h => by cases h⟩
theorem fX9_37 : t_FL RX9 37 9 5 := ⟨RX9, TX9, 19, rfl, by decide, tw_k tw_s5 192 rfl rfl, uX9⟩
theorem pX9_37 : t_FP RX9 37 9 5 .int false := ⟨RX9, TX9, 19, tyX9, rfl, by decide, tw_k tw_s5 192 rfl rfl, uX9, tyX9_ok, nmX9, by decide +kernel, rfl, fun h => by cases h⟩
theorem fX9_19 : t_FL RX9 19 9 6 := ⟨RX9, TX9, 19, rfl, by decide, tw_k tw_s5 193 rfl rfl, uX9⟩
theorem pX9_19 : t_FP RX9 19 9 6 (.array .int) true := ⟨RX9, TX9, 19, tyX9, rfl, by decide, tw_k tw_s5 193 rfl rfl, uX9, tyX9_ok, nmX9, by decide +kernel, rfl, fun _ => rfl⟩
theorem fX9_22 : t_FL RX9 22 9 7 := ⟨RX9, TX9, 19, rfl, by decide, tw_k tw_s5 194 rfl rfl, uX9⟩
theorem pX9_22 : t_FP RX9 22 9 7 (.array .byte) true := ⟨RX9, TX9, 19, tyX9, rfl, by decide, tw_k tw_s5 194 rfl rfl, uX9, tyX9_ok, nmX9, by decide +kernel, rfl, fun _ => rfl⟩
theorem fX9_151 : t_FL RX9 151 9 8 := ⟨RX9, TX9, 19, rfl, by decide, tw_k tw_s5 195 rfl rfl, uX9⟩
theorem pX9_151 : t_FP RX9 151 9 8 .int false := ⟨RX9, TX9, 19, tyX9, rfl, by decide, tw_k tw_s5 195 rfl rfl, uX9, tyX9_ok, nmX9, by decide +kernel, rfl, fun h => by cases h⟩
theorem fX9_26 : t_FL RX9 26 9 9 := ⟨RX9, TX9, 19, rfl, by decide, tw_k tw_s5 196 rfl rfl, uX9⟩
theorem pX9_26 : t_FP RX9 26 9 9 .int false := ⟨RX9, TX9, 19, tyX9, rfl, by decide, tw_k tw_s5 196 rfl rfl, uX9, tyX9_ok, nmX9, by decide +kernel, rfl, fun h => by cases h⟩
theorem fX9_30 : t_FL RX9 30 9 10 := ⟨RX9, TX9, 19, rfl, by decide, tw_k tw_s5 197 rfl rfl, uX9⟩
theorem pX9_30 : t_FP RX9 30 9 10 .int false := ⟨RX9, TX9, 19, tyX9, rfl, by decide, tw_k tw_s5 197 rfl rfl, uX9, tyX9_ok, nmX9, by decide +kernel, rfl, fun h => by cases h⟩
theorem fX9_183 : t_FL RX9 183 9 11 := ⟨RX9, TX9, 19, rfl, by decide, tw_k tw_s5 198 rfl rfl, uX9⟩
theorem pX9_183 : t_FP RX9 183 9 11 .int false := ⟨RX9, TX9, 19, tyX9, rfl, by decide, tw_k tw_s5 198 rfl rfl, uX9, tyX9_ok, nmX9, by decide +kernel, rfl, fun h => by cases h⟩
theorem fX9_186 : t_FL RX9 186 9 12 := ⟨RX9, TX9, 19, rfl, by decide, tw_k tw_s5 199 rfl rfl, uX9⟩
theorem pX9_186 : t_FP RX9 186 9 12 .int false := ⟨RX9, TX9, 19, tyX9, rfl, by decide, tw_k tw_s5 199 rfl rfl, uX9, tyX9_ok, nmX9, by decide +kernel, rfl, fun h => by cases h⟩
theorem fX9_163 : t_FL RX9 163 9 13 := ⟨RX9, TX9, 19, rfl, by decide, tw_k tw_s5 200 rfl rfl, uX9⟩
theorem pX9_163 : t_FP RX9 163 9 13 .int false := ⟨RX9, TX9, 19, tyX9, rfl, by decide, tw_k tw_s5 200 rfl rfl, uX9, tyX9_ok, nmX9, by decide +kernel, rfl, fun h => by cases h⟩
theorem fX9_160 : t_FL RX9 160 9 14 := ⟨RX9, TX9, 19, rfl, by decide, tw_k tw_s5 201 rfl rfl, uX9⟩
theorem pX9_160 : t_FP RX9 160 9 14 .int false := ⟨RX9, TX9, 19, tyX9, rfl, by decide, tw_k tw_s5 201 rfl rfl, uX9, tyX9_ok, nmX9, by decide +kernel, rfl, fun h => by cases h⟩
theorem fX9_166 : t_FL RX9 166 9 15 := ⟨RX9, TX9, 19, rfl, by decide, tw_k tw_s5 202 rfl rfl, uX9⟩
theorem pX9_166 : t_FP RX9 166 9 15 .int false := ⟨RX9, TX9, 19, tyX9, rfl, by decide, tw_k tw_s5 202 rfl rfl, uX9, tyX9_ok, nmX9, by decide +kernel, rfl, fun h => by cases h⟩
theorem fX9_180 : t_FL RX9 180 9 16 := ⟨RX9, TX9, 19, rfl, by decide, tw_k tw_s5 203 rfl rfl, uX9⟩
theorem pX9_180 : t_FP RX9 180 9 16 .int false := ⟨RX9, TX9, 19, tyX9, rfl, by decide, tw_k tw_s5 203 rfl rfl, uX9, tyX9_ok, nmX9, by decide +kernel, rfl, fun h => by cases h⟩
theorem fX9_157 : t_FL RX9 157 9 17 := ⟨RX9, TX9, 19, rfl, by decide, tw_k tw_s5 204 rfl rfl, uX9⟩
theorem pX9_157 : t_FP RX9 157 9 17 .int false := ⟨RX9, TX9, 19, tyX9, rfl, by decide, tw_k tw_s5 204 rfl rfl, uX9, tyX9_ok, nmX9, by decide +kernel, rfl, fun h => by cases h⟩
theorem fX9_172 : t_FL RX9 172 9 18 := ⟨RX9, TX9, 19, rfl, by decide, tw_k tw_s5 205 rfl rfl, uX9⟩
theorem pX9_172 : t_FP RX9 172 9 18 .long false := ⟨RX9, TX9, 19, tyX9, rfl, by decide, tw_k tw_s5 205 rfl rfl, uX9, tyX9_ok, nmX9, by decide +kernel, rfl, fun h => by cases h⟩
theorem lL_9 : Cond.methodLink RL 9 yX8_init ∈ tw := tw_k tw_s1 21 rfl rfl
theorem lX8_1 : Cond.methodLink RX8 1 objectInit ∈ tw := tw_k tw_s1 24 rfl rfl
theorem lX5_3 : Cond.methodLink RX5 3 objectInit ∈ tw := tw_k tw_s1 32 rfl rfl
theorem lX8_18 : Cond.methodLink RX8 18 yX7_init ∈ tw := tw_k tw_s1 67 rfl rfl
theorem lX7_3 : Cond.methodLink RX7 3 objectInit ∈ tw := tw_k tw_s1 70 rfl rfl
theorem lX4_3 : Cond.methodLink RX4 3 objectInit ∈ tw := tw_k tw_s1 78 rfl rfl
theorem lX2_3 : Cond.methodLink RX2 3 objectInit ∈ tw := tw_k tw_s1 97 rfl rfl
theorem lX1_3 : Cond.methodLink RX1 3 objectInit ∈ tw := tw_k tw_s1 113 rfl rfl
theorem lX0_1 : Cond.methodLink RX0 1 objectInit ∈ tw := tw_k tw_s1 126 rfl rfl
theorem lX6_3 : Cond.methodLink RX6 3 objectInit ∈ tw := tw_k tw_s1 143 rfl rfl
theorem lX3_3 : Cond.methodLink RX3 3 objectInit ∈ tw := tw_k tw_s1 224 rfl rfl
theorem lX7_57 : Cond.methodLink RX7 57 yX7_renew ∈ tw := tw_k tw_s2 57 rfl rfl
theorem lX7_72 : Cond.methodLink RX7 72 yX0_clear ∈ tw := tw_k tw_s2 61 rfl rfl
theorem lX7_75 : Cond.methodLink RX7 75 yJ7_fill_53178 ∈ tw := tw_k tw_s2 65 rfl rfl
theorem lX7_84 : Cond.methodLink RX7 84 yX7_clearWork ∈ tw := tw_k tw_s2 68 rfl rfl
theorem lX7_96 : Cond.methodLink RX7 96 yX7_clearCut ∈ tw := tw_k tw_s2 72 rfl rfl
theorem lX7_125 : Cond.methodLink RX7 125 yX7_clearRed ∈ tw := tw_k tw_s2 76 rfl rfl
theorem lX7_344 : Cond.methodLink RX7 344 yX2_clearRed ∈ tw := tw_k tw_s2 80 rfl rfl
theorem lX7_345 : Cond.methodLink RX7 345 yX3_clearRed ∈ tw := tw_k tw_s2 84 rfl rfl
theorem lX7_100 : Cond.methodLink RX7 100 yX1_clear ∈ tw := tw_k tw_s2 88 rfl rfl
theorem lX1_31 : Cond.methodLink RX1 31 yJ7_fill_53178 ∈ tw := tw_k tw_s2 92 rfl rfl
theorem lX7_101 : Cond.methodLink RX7 101 yX6_clear ∈ tw := tw_k tw_s2 93 rfl rfl
theorem lX6_57 : Cond.methodLink RX6 57 yJ7_fill_53178 ∈ tw := tw_k tw_s2 97 rfl rfl
theorem lX7_102 : Cond.methodLink RX7 102 yX3_clear ∈ tw := tw_k tw_s2 98 rfl rfl
theorem lX3_64 : Cond.methodLink RX3 64 yX3_clearRed ∈ tw := tw_k tw_s2 102 rfl rfl
theorem lL_13 : Cond.methodLink RL 13 yX8_status ∈ tw := tw_k tw_s2 186 rfl rfl
theorem lL_18 : Cond.methodLink RL 18 yX8_feed ∈ tw := tw_k tw_s2 190 rfl rfl
theorem lX8_34 : Cond.methodLink RX8 34 yX5_hasRoomFor ∈ tw := tw_k tw_s2 194 rfl rfl
theorem lX8_38 : Cond.methodLink RX8 38 yX5_put ∈ tw := tw_k tw_s2 198 rfl rfl
theorem lL_23 : Cond.methodLink RL 23 yX8_load ∈ tw := tw_k tw_s2 202 rfl rfl
theorem lX8_45 : Cond.methodLink RX8 45 yX8_refuse ∈ tw := tw_k tw_s2 206 rfl rfl
theorem lX8_49 : Cond.methodLink RX8 49 yX5_read ∈ tw := tw_k tw_s2 210 rfl rfl
theorem lX5_25 : Cond.methodLink RX5 25 yJ9_max_7cf53 ∈ tw := tw_k tw_s2 214 rfl rfl
theorem lX5_31 : Cond.methodLink RX5 31 yJ9_min_7cf53 ∈ tw := tw_k tw_s2 217 rfl rfl
theorem lX5_40 : Cond.methodLink RX5 40 yX5_readHead ∈ tw := tw_k tw_s2 220 rfl rfl
theorem lX5_44 : Cond.methodLink RX5 44 yX5_scan ∈ tw := tw_k tw_s2 224 rfl rfl
theorem lX5_128 : Cond.methodLink RX5 128 yX5_isSmallLetter ∈ tw := tw_k tw_s2 228 rfl rfl
theorem lX5_131 : Cond.methodLink RX5 131 yX5_scanWord ∈ tw := tw_k tw_s2 231 rfl rfl
theorem lX5_134 : Cond.methodLink RX5 134 yX5_isDigit ∈ tw := tw_k tw_s2 235 rfl rfl
theorem lX5_137 : Cond.methodLink RX5 137 yX5_scanNumber ∈ tw := tw_k tw_s2 238 rfl rfl
theorem lX5_53 : Cond.methodLink RX5 53 yX5_wants ∈ tw := tw_k tw_s3 2 rfl rfl
theorem lX5_63 : Cond.methodLink RX5 63 yX5_blame ∈ tw := tw_k tw_s3 6 rfl rfl
theorem lX5_59 : Cond.methodLink RX5 59 yX5_isWord ∈ tw := tw_k tw_s3 11 rfl rfl
theorem lX5_140 : Cond.methodLink RX5 140 yJ0_length_8abf5 ∈ tw := tw_k tw_s3 15 rfl rfl
theorem lJ0_335 : Cond.methodLink RJ0 335 yJ0_coder_7d493 ∈ tw := tw_k tw_s3 19 rfl rfl
theorem lX5_146 : Cond.methodLink RX5 146 yJ0_charAt_5068e ∈ tw := tw_k tw_s3 25 rfl rfl
theorem lJ0_492 : Cond.methodLink RJ0 492 yJ0_isLatin1_aae02 ∈ tw := tw_k tw_s3 29 rfl rfl
theorem lJ0_495 : Cond.methodLink RJ0 495 yJ1_charAt_3b067 ∈ tw := tw_k tw_s3 33 rfl rfl
theorem lJ1_9 : Cond.methodLink RJ1 9 yJ0_checkIndex_df160 ∈ tw := tw_k tw_s3 36 rfl rfl
theorem lJ0_1059 : Cond.methodLink RJ0 1059 yJ3_checkIndex_8e157 ∈ tw := tw_k tw_s3 41 rfl rfl
theorem lJ0_498 : Cond.methodLink RJ0 498 yJ2_charAt_3b067 ∈ tw := tw_k tw_s3 44 rfl rfl
theorem lJ2_67 : Cond.methodLink RJ2 67 yJ2_checkIndex_2214a ∈ tw := tw_k tw_s3 47 rfl rfl
theorem lJ2_48 : Cond.methodLink RJ2 48 yJ2_length_9d52b ∈ tw := tw_k tw_s3 50 rfl rfl
theorem lJ2_414 : Cond.methodLink RJ2 414 yJ0_checkIndex_df160 ∈ tw := tw_k tw_s3 53 rfl rfl
theorem lJ2_71 : Cond.methodLink RJ2 71 yJ2_getChar_3b067 ∈ tw := tw_k tw_s3 54 rfl rfl
theorem lX5_66 : Cond.methodLink RX5 66 yX5_wantsNumber ∈ tw := tw_k tw_s3 63 rfl rfl
theorem lX5_73 : Cond.methodLink RX5 73 yX7_renew ∈ tw := tw_k tw_s3 70 rfl rfl
theorem lX5_79 : Cond.methodLink RX5 79 yX5_wantsSign ∈ tw := tw_k tw_s3 71 rfl rfl
theorem lX5_50 : Cond.methodLink RX5 50 yX5_readLine ∈ tw := tw_k tw_s3 75 rfl rfl
theorem lX5_85 : Cond.methodLink RX5 85 yX5_readWire ∈ tw := tw_k tw_s3 80 rfl rfl
theorem lX5_104 : Cond.methodLink RX5 104 yX5_wantsNode ∈ tw := tw_k tw_s3 84 rfl rfl
theorem lX5_122 : Cond.methodLink RX5 122 yX7_hasNode ∈ tw := tw_k tw_s3 88 rfl rfl
theorem lX5_101 : Cond.methodLink RX5 101 yX5_readRow ∈ tw := tw_k tw_s3 97 rfl rfl
theorem lX5_114 : Cond.methodLink RX5 114 yX4_append ∈ tw := tw_k tw_s3 101 rfl rfl
theorem lX8_53 : Cond.methodLink RX8 53 yX7_copyFrom ∈ tw := tw_k tw_s3 105 rfl rfl
theorem lX7_128 : Cond.methodLink RX7 128 yX3_copyFrom ∈ tw := tw_k tw_s3 109 rfl rfl
theorem lX7_132 : Cond.methodLink RX7 132 arraycopyName ∈ tw := tw_k tw_s3 113 rfl rfl
theorem lX7_138 : Cond.methodLink RX7 138 yX4_copyFrom ∈ tw := tw_k tw_s3 116 rfl rfl
theorem lX4_22 : Cond.methodLink RX4 22 arraycopyName ∈ tw := tw_k tw_s3 120 rfl rfl
theorem lX7_141 : Cond.methodLink RX7 141 yX2_copyFrom ∈ tw := tw_k tw_s3 121 rfl rfl
theorem lX2_29 : Cond.methodLink RX2 29 arraycopyName ∈ tw := tw_k tw_s3 125 rfl rfl
theorem lX7_144 : Cond.methodLink RX7 144 yX1_copyFrom ∈ tw := tw_k tw_s3 126 rfl rfl
theorem lX1_37 : Cond.methodLink RX1 37 arraycopyName ∈ tw := tw_k tw_s3 130 rfl rfl
theorem lX7_147 : Cond.methodLink RX7 147 yX0_copyFrom ∈ tw := tw_k tw_s3 131 rfl rfl
theorem lX0_26 : Cond.methodLink RX0 26 arraycopyName ∈ tw := tw_k tw_s3 135 rfl rfl
theorem lX7_150 : Cond.methodLink RX7 150 yX6_copyFrom ∈ tw := tw_k tw_s3 136 rfl rfl
theorem lX6_81 : Cond.methodLink RX6 81 arraycopyName ∈ tw := tw_k tw_s3 140 rfl rfl
theorem lX8_60 : Cond.methodLink RX8 60 yX8_answer ∈ tw := tw_k tw_s3 141 rfl rfl
theorem lL_28 : Cond.methodLink RL 28 yX8_fault ∈ tw := tw_k tw_s3 146 rfl rfl
theorem lL_32 : Cond.methodLink RL 32 yX8_many ∈ tw := tw_k tw_s3 150 rfl rfl
theorem lX8_69 : Cond.methodLink RX8 69 yX8_isWithin ∈ tw := tw_k tw_s3 154 rfl rfl
theorem lX8_76 : Cond.methodLink RX8 76 yX7_overall ∈ tw := tw_k tw_s3 155 rfl rfl
theorem lX7_373 : Cond.methodLink RX7 373 yX7_busyBits ∈ tw := tw_k tw_s3 159 rfl rfl
theorem lX7_340 : Cond.methodLink RX7 340 yX7_together ∈ tw := tw_k tw_s3 166 rfl rfl
theorem lX7_384 : Cond.methodLink RX7 384 yX7_ofNode ∈ tw := tw_k tw_s3 170 rfl rfl
theorem lX7_381 : Cond.methodLink RX7 381 yX7_childBits ∈ tw := tw_k tw_s3 174 rfl rfl
theorem lX7_376 : Cond.methodLink RX7 376 yX2_works ∈ tw := tw_k tw_s3 178 rfl rfl
theorem lX2_25 : Cond.methodLink RX2 25 yX2_part ∈ tw := tw_k tw_s3 182 rfl rfl
theorem lX7_379 : Cond.methodLink RX7 379 yX2_signals ∈ tw := tw_k tw_s3 186 rfl rfl
theorem lX2_35 : Cond.methodLink RX2 35 yX2_works ∈ tw := tw_k tw_s3 190 rfl rfl
theorem lL_36 : Cond.methodLink RL 36 yX8_node ∈ tw := tw_k tw_s3 191 rfl rfl
theorem lX8_79 : Cond.methodLink RX8 79 yX7_hasNode ∈ tw := tw_k tw_s3 195 rfl rfl
theorem lX8_82 : Cond.methodLink RX8 82 yX7_ofNode ∈ tw := tw_k tw_s3 196 rfl rfl
theorem lL_41 : Cond.methodLink RL 41 yX8_wire ∈ tw := tw_k tw_s3 197 rfl rfl
theorem lX8_86 : Cond.methodLink RX8 86 yX8_pairStatus ∈ tw := tw_k tw_s3 201 rfl rfl
theorem lX8_93 : Cond.methodLink RX8 93 yX8_wireOf ∈ tw := tw_k tw_s3 205 rfl rfl
theorem lL_45 : Cond.methodLink RL 45 yX8_row ∈ tw := tw_k tw_s3 206 rfl rfl
theorem lX8_103 : Cond.methodLink RX8 103 yX4_part ∈ tw := tw_k tw_s3 210 rfl rfl
theorem lL_49 : Cond.methodLink RL 49 yX8_letter ∈ tw := tw_k tw_s3 214 rfl rfl
theorem lX8_113 : Cond.methodLink RX8 113 yX2_part ∈ tw := tw_k tw_s3 218 rfl rfl
theorem lL_53 : Cond.methodLink RL 53 yX8_watch ∈ tw := tw_k tw_s3 219 rfl rfl
theorem lX8_117 : Cond.methodLink RX8 117 yX8_isWatch ∈ tw := tw_k tw_s3 223 rfl rfl
theorem lX8_120 : Cond.methodLink RX8 120 yX7_ofWatch ∈ tw := tw_k tw_s3 226 rfl rfl
theorem lX7_387 : Cond.methodLink RX7 387 yX7_ofTree ∈ tw := tw_k tw_s3 230 rfl rfl
theorem lX7_399 : Cond.methodLink RX7 399 yX7_treeDepth ∈ tw := tw_k tw_s3 234 rfl rfl
theorem lX7_269 : Cond.methodLink RX7 269 yX7_hasNode ∈ tw := tw_k tw_s3 238 rfl rfl
theorem lX7_184 : Cond.methodLink RX7 184 yJ9_max_7cf53 ∈ tw := tw_k tw_s3 239 rfl rfl
theorem lX7_390 : Cond.methodLink RX7 390 yX7_ofToken ∈ tw := tw_k tw_s4 0 rfl rfl
theorem lX7_393 : Cond.methodLink RX7 393 yX7_ofWeight ∈ tw := tw_k tw_s4 4 rfl rfl
theorem lX7_396 : Cond.methodLink RX7 396 yX7_ofWaves ∈ tw := tw_k tw_s4 8 rfl rfl
theorem lL_57 : Cond.methodLink RL 57 yX8_lag ∈ tw := tw_k tw_s4 12 rfl rfl
theorem lX8_127 : Cond.methodLink RX8 127 yX6_hasTold ∈ tw := tw_k tw_s4 16 rfl rfl
theorem lX8_132 : Cond.methodLink RX8 132 yX7_lagOf ∈ tw := tw_k tw_s4 20 rfl rfl
theorem lL_61 : Cond.methodLink RL 61 yX8_bound ∈ tw := tw_k tw_s4 24 rfl rfl
theorem lX8_135 : Cond.methodLink RX8 135 yX7_boundOf ∈ tw := tw_k tw_s4 28 rfl rfl
theorem lX7_414 : Cond.methodLink RX7 414 yX7_greatestWire ∈ tw := tw_k tw_s4 32 rfl rfl
theorem lX7_417 : Cond.methodLink RX7 417 yX7_greatestWireToRoot ∈ tw := tw_k tw_s4 37 rfl rfl
theorem lX7_420 : Cond.methodLink RX7 420 yX7_wiresDownwards ∈ tw := tw_k tw_s4 41 rfl rfl
theorem lX7_423 : Cond.methodLink RX7 423 yX7_wiresUpwards ∈ tw := tw_k tw_s4 45 rfl rfl
theorem lL_65 : Cond.methodLink RL 65 yX8_best ∈ tw := tw_k tw_s4 49 rfl rfl
theorem lX8_138 : Cond.methodLink RX8 138 yX7_leastLate ∈ tw := tw_k tw_s4 53 rfl rfl
theorem lX7_299 : Cond.methodLink RX7 299 yX6_hasTold ∈ tw := tw_k tw_s4 57 rfl rfl
theorem lX7_411 : Cond.methodLink RX7 411 yX7_lagOf ∈ tw := tw_k tw_s4 58 rfl rfl
theorem lX8_142 : Cond.methodLink RX8 142 yX6_fewestSignals ∈ tw := tw_k tw_s4 59 rfl rfl
theorem lX6_18 : Cond.methodLink RX6 18 yX6_hasTold ∈ tw := tw_k tw_s4 63 rfl rfl
theorem lL_69 : Cond.methodLink RL 69 yX8_weights ∈ tw := tw_k tw_s4 64 rfl rfl
theorem lX8_145 : Cond.methodLink RX8 145 yX7_weighed ∈ tw := tw_k tw_s4 68 rfl rfl
theorem lX7_408 : Cond.methodLink RX7 408 yX2_weightTogether ∈ tw := tw_k tw_s4 72 rfl rfl
theorem lL_73 : Cond.methodLink RL 73 yX8_last ∈ tw := tw_k tw_s4 76 rfl rfl
theorem lX8_148 : Cond.methodLink RX8 148 yX7_hasLastLetter ∈ tw := tw_k tw_s4 80 rfl rfl
theorem lX8_152 : Cond.methodLink RX8 152 yX7_ofLastLetter ∈ tw := tw_k tw_s4 84 rfl rfl
theorem lL_77 : Cond.methodLink RL 77 yX8_ledger ∈ tw := tw_k tw_s4 88 rfl rfl
theorem lX8_159 : Cond.methodLink RX8 159 yX1_part ∈ tw := tw_k tw_s4 92 rfl rfl
theorem lL_82 : Cond.methodLink RL 82 yX8_cutting ∈ tw := tw_k tw_s4 96 rfl rfl
theorem lX8_165 : Cond.methodLink RX8 165 yX7_ofCut ∈ tw := tw_k tw_s4 100 rfl rfl
theorem lX7_348 : Cond.methodLink RX7 348 yX7_redBits ∈ tw := tw_k tw_s4 104 rfl rfl
theorem lX7_354 : Cond.methodLink RX7 354 yX7_isWhole ∈ tw := tw_k tw_s4 108 rfl rfl
theorem lX7_357 : Cond.methodLink RX7 357 yX7_recordTogether ∈ tw := tw_k tw_s4 112 rfl rfl
theorem lX7_351 : Cond.methodLink RX7 351 yX3_recordOf ∈ tw := tw_k tw_s4 116 rfl rfl
theorem lX7_360 : Cond.methodLink RX7 360 yX7_showsEnd ∈ tw := tw_k tw_s4 120 rfl rfl
theorem lL_86 : Cond.methodLink RL 86 yX8_recorded ∈ tw := tw_k tw_s4 124 rfl rfl
theorem lX8_178 : Cond.methodLink RX8 178 yX3_recordOf ∈ tw := tw_k tw_s4 128 rfl rfl
theorem lL_90 : Cond.methodLink RL 90 yX8_event ∈ tw := tw_k tw_s4 129 rfl rfl
theorem lX8_188 : Cond.methodLink RX8 188 yX0_part ∈ tw := tw_k tw_s4 133 rfl rfl
theorem lL_94 : Cond.methodLink RL 94 yX8_begin ∈ tw := tw_k tw_s4 137 rfl rfl
theorem lX8_189 : Cond.methodLink RX8 189 yX8_startStatus ∈ tw := tw_k tw_s4 141 rfl rfl
theorem lX8_205 : Cond.methodLink RX8 205 yX7_isWorking ∈ tw := tw_k tw_s4 145 rfl rfl
theorem lX8_192 : Cond.methodLink RX8 192 yX7_start ∈ tw := tw_k tw_s4 149 rfl rfl
theorem lX7_117 : Cond.methodLink RX7 117 yX0_note ∈ tw := tw_k tw_s4 154 rfl rfl
theorem lX0_20 : Cond.methodLink RX0 20 yJ9_min_7cf53 ∈ tw := tw_k tw_s4 158 rfl rfl
theorem lL_98 : Cond.methodLink RL 98 yX8_plan ∈ tw := tw_k tw_s4 159 rfl rfl
theorem lX8_195 : Cond.methodLink RX8 195 yX4_append ∈ tw := tw_k tw_s4 163 rfl rfl
theorem lL_103 : Cond.methodLink RL 103 yX8_drop ∈ tw := tw_k tw_s4 164 rfl rfl
theorem lX8_199 : Cond.methodLink RX8 199 yX4_takeOut ∈ tw := tw_k tw_s4 168 rfl rfl
theorem lL_107 : Cond.methodLink RL 107 yX8_wires ∈ tw := tw_k tw_s4 172 rfl rfl
theorem lL_111 : Cond.methodLink RL 111 yX8_add ∈ tw := tw_k tw_s4 176 rfl rfl
theorem lX8_202 : Cond.methodLink RX8 202 yX2_signals ∈ tw := tw_k tw_s4 180 rfl rfl
theorem lX8_208 : Cond.methodLink RX8 208 yX7_growByOne ∈ tw := tw_k tw_s4 181 rfl rfl
theorem lL_115 : Cond.methodLink RL 115 yX8_sleep ∈ tw := tw_k tw_s4 185 rfl rfl
theorem lL_119 : Cond.methodLink RL 119 yX8_cut ∈ tw := tw_k tw_s4 189 rfl rfl
theorem lX8_214 : Cond.methodLink RX8 214 yX8_cutStatus ∈ tw := tw_k tw_s4 193 rfl rfl
theorem lX8_217 : Cond.methodLink RX8 217 yX7_startCut ∈ tw := tw_k tw_s4 197 rfl rfl
theorem lX7_195 : Cond.methodLink RX7 195 yX7_turnRed ∈ tw := tw_k tw_s4 201 rfl rfl
theorem lX7_346 : Cond.methodLink RX7 346 yX3_turnRed ∈ tw := tw_k tw_s4 205 rfl rfl
theorem lL_123 : Cond.methodLink RL 123 yX8_tick ∈ tw := tw_k tw_s4 209 rfl rfl
theorem lX8_220 : Cond.methodLink RX8 220 yX7_pass ∈ tw := tw_k tw_s4 213 rfl rfl
theorem lX7_162 : Cond.methodLink RX7 162 yX7_takeLetters ∈ tw := tw_k tw_s4 217 rfl rfl
theorem lX7_192 : Cond.methodLink RX7 192 yX2_part ∈ tw := tw_k tw_s4 221 rfl rfl
theorem lX7_198 : Cond.methodLink RX7 198 yX7_takeWork ∈ tw := tw_k tw_s4 222 rfl rfl
theorem lX7_207 : Cond.methodLink RX7 207 yX1_leave ∈ tw := tw_k tw_s4 226 rfl rfl
theorem lX7_231 : Cond.methodLink RX7 231 yX7_post ∈ tw := tw_k tw_s4 230 rfl rfl
theorem lX7_277 : Cond.methodLink RX7 277 yX2_put ∈ tw := tw_k tw_s4 234 rfl rfl
theorem lX2_19 : Cond.methodLink RX2 19 yJ7_copyOf_59c91 ∈ tw := tw_k tw_s4 238 rfl rfl
theorem lJ7_316 : Cond.methodLink RJ7 316 ⟨"[I", "clone", "()Ljava/lang/Object;"⟩ ∈ tw := tw_k tw_s5 1 rfl rfl
theorem lJ7_304 : Cond.methodLink RJ7 304 yJ9_min_7cf53 ∈ tw := tw_k tw_s5 8 rfl rfl
theorem lJ7_150 : Cond.methodLink RJ7 150 arraycopyName ∈ tw := tw_k tw_s5 9 rfl rfl
theorem lX7_281 : Cond.methodLink RX7 281 yX1_enter ∈ tw := tw_k tw_s5 10 rfl rfl
theorem lX7_284 : Cond.methodLink RX7 284 yX7_countSignal ∈ tw := tw_k tw_s5 14 rfl rfl
theorem lX7_201 : Cond.methodLink RX7 201 yX7_takeSignal ∈ tw := tw_k tw_s5 18 rfl rfl
theorem lX7_204 : Cond.methodLink RX7 204 yX2_takeOutUntil ∈ tw := tw_k tw_s5 22 rfl rfl
theorem lX7_165 : Cond.methodLink RX7 165 yX7_workOff ∈ tw := tw_k tw_s5 26 rfl rfl
theorem lX7_253 : Cond.methodLink RX7 253 yX4_part ∈ tw := tw_k tw_s5 30 rfl rfl
theorem lX7_254 : Cond.methodLink RX7 254 yX7_sendWork ∈ tw := tw_k tw_s5 31 rfl rfl
theorem lX7_263 : Cond.methodLink RX7 263 yX2_fill ∈ tw := tw_k tw_s5 35 rfl rfl
theorem lX7_168 : Cond.methodLink RX7 168 yX7_tendWatches ∈ tw := tw_k tw_s5 39 rfl rfl
theorem lX7_287 : Cond.methodLink RX7 287 yX7_tendTree ∈ tw := tw_k tw_s5 43 rfl rfl
theorem lX7_302 : Cond.methodLink RX7 302 yX7_tellEnd ∈ tw := tw_k tw_s5 47 rfl rfl
theorem lX7_290 : Cond.methodLink RX7 290 yX7_tendToken ∈ tw := tw_k tw_s5 51 rfl rfl
theorem lX7_314 : Cond.methodLink RX7 314 yX6_renewRound ∈ tw := tw_k tw_s5 55 rfl rfl
theorem lX7_293 : Cond.methodLink RX7 293 yX7_tendWeight ∈ tw := tw_k tw_s5 59 rfl rfl
theorem lX7_296 : Cond.methodLink RX7 296 yX7_tendWaves ∈ tw := tw_k tw_s5 63 rfl rfl
theorem lX7_326 : Cond.methodLink RX7 326 yX6_allFourAlike ∈ tw := tw_k tw_s5 67 rfl rfl
theorem lX7_330 : Cond.methodLink RX7 330 yX6_renewWave ∈ tw := tw_k tw_s5 71 rfl rfl
theorem lX7_171 : Cond.methodLink RX7 171 yX7_seeTruth ∈ tw := tw_k tw_s5 75 rfl rfl
theorem lX7_337 : Cond.methodLink RX7 337 yX7_isWorking ∈ tw := tw_k tw_s5 79 rfl rfl
theorem lX7_174 : Cond.methodLink RX7 174 yX7_sleepOn ∈ tw := tw_k tw_s5 80 rfl rfl
theorem lX7_180 : Cond.methodLink RX7 180 yX7_treeSize ∈ tw := tw_k tw_s5 84 rfl rfl
theorem lX7_189 : Cond.methodLink RX7 189 yX1_keepMost ∈ tw := tw_k tw_s5 88 rfl rfl
theorem lX1_24 : Cond.methodLink RX1 24 yX2_part ∈ tw := tw_k tw_s5 92 rfl rfl
theorem lL_127 : Cond.methodLink RL 127 yX8_mark ∈ tw := tw_k tw_s5 94 rfl rfl
theorem lL_131 : Cond.methodLink RL 131 yX8_back ∈ tw := tw_k tw_s5 98 rfl rfl
theorem lL_135 : Cond.methodLink RL 135 yX8_ends ∈ tw := tw_k tw_s5 102 rfl rfl
theorem lX8_226 : Cond.methodLink RX8 226 yX7_passUntilTruth ∈ tw := tw_k tw_s5 106 rfl rfl
theorem lX7_364 : Cond.methodLink RX7 364 yX7_pass ∈ tw := tw_k tw_s5 111 rfl rfl
theorem lL_139 : Cond.methodLink RL 139 yX8_tells ∈ tw := tw_k tw_s5 112 rfl rfl
theorem lX8_229 : Cond.methodLink RX8 229 yX7_passUntilTold ∈ tw := tw_k tw_s5 116 rfl rfl
theorem lL_143 : Cond.methodLink RL 143 yX8_whole ∈ tw := tw_k tw_s5 120 rfl rfl
theorem lX8_232 : Cond.methodLink RX8 232 yX7_passUntilWhole ∈ tw := tw_k tw_s5 124 rfl rfl
theorem lX7_367 : Cond.methodLink RX7 367 yX7_isStill ∈ tw := tw_k tw_s5 128 rfl rfl
theorem lX7_370 : Cond.methodLink RX7 370 yX6_haveAllTold ∈ tw := tw_k tw_s5 132 rfl rfl
theorem lX8_235 : Cond.methodLink RX8 235 yX7_isWhole ∈ tw := tw_k tw_s5 136 rfl rfl
theorem lL_147 : Cond.methodLink RL 147 yX8_would ∈ tw := tw_k tw_s5 137 rfl rfl
theorem lX8_238 : Cond.methodLink RX8 238 yX8_startOnPaper ∈ tw := tw_k tw_s5 141 rfl rfl
theorem lL_151 : Cond.methodLink RL 151 yX8_with ∈ tw := tw_k tw_s5 145 rfl rfl
theorem lL_155 : Cond.methodLink RL 155 yX8_margin ∈ tw := tw_k tw_s5 149 rfl rfl
theorem lL_159 : Cond.methodLink RL 159 yX8_quickest ∈ tw := tw_k tw_s5 153 rfl rfl
theorem lL_163 : Cond.methodLink RL 163 yX8_enough ∈ tw := tw_k tw_s5 157 rfl rfl
theorem lX8_249 : Cond.methodLink RX8 249 yX4_leastLoad ∈ tw := tw_k tw_s5 161 rfl rfl
theorem lX4_28 : Cond.methodLink RX4 28 yX4_sentWith ∈ tw := tw_k tw_s5 165 rfl rfl
theorem lX4_32 : Cond.methodLink RX4 32 yJ7_fill_53178 ∈ tw := tw_k tw_s5 169 rfl rfl
theorem lX4_38 : Cond.methodLink RX4 38 yX4_part ∈ tw := tw_k tw_s5 170 rfl rfl
theorem lX4_42 : Cond.methodLink RX4 42 yJ13_bitCount_95d88 ∈ tw := tw_k tw_s5 171 rfl rfl
theorem lL_12 : Cond.methodLink RL 12 yX9_init ∈ tw := tw_k tw_s5 179 rfl rfl
theorem lX9_1 : Cond.methodLink RX9 1 objectInit ∈ tw := tw_k tw_s5 182 rfl rfl
theorem lX9_33 : Cond.methodLink RX9 33 yX9_clears ∈ tw := tw_k tw_s5 183 rfl rfl
theorem lL_17 : Cond.methodLink RL 17 yX9_status ∈ tw := tw_k tw_s6 5 rfl rfl
theorem lL_22 : Cond.methodLink RL 22 yX9_feed ∈ tw := tw_k tw_s6 9 rfl rfl
theorem lX9_154 : Cond.methodLink RX9 154 yX9_lays ∈ tw := tw_k tw_s6 13 rfl rfl
theorem lL_27 : Cond.methodLink RL 27 yX9_load ∈ tw := tw_k tw_s6 17 rfl rfl
theorem lX9_43 : Cond.methodLink RX9 43 yX9_isIn ∈ tw := tw_k tw_s6 21 rfl rfl
theorem lX9_225 : Cond.methodLink RX9 225 yX9_refuse ∈ tw := tw_k tw_s6 24 rfl rfl
theorem lX9_228 : Cond.methodLink RX9 228 yX9_swaps ∈ tw := tw_k tw_s6 28 rfl rfl
theorem lX9_193 : Cond.methodLink RX9 193 yX9_reads ∈ tw := tw_k tw_s6 32 rfl rfl
theorem lX9_169 : Cond.methodLink RX9 169 yX9_isOf ∈ tw := tw_k tw_s6 36 rfl rfl
theorem lX9_207 : Cond.methodLink RX9 207 yX9_isWord ∈ tw := tw_k tw_s6 43 rfl rfl
theorem lX9_189 : Cond.methodLink RX9 189 yX9_wants ∈ tw := tw_k tw_s6 47 rfl rfl
theorem lX9_199 : Cond.methodLink RX9 199 yX9_takes ∈ tw := tw_k tw_s6 51 rfl rfl
theorem lX9_222 : Cond.methodLink RX9 222 yX9_semicolon ∈ tw := tw_k tw_s6 55 rfl rfl
theorem lX9_233 : Cond.methodLink RX9 233 yX9_readsLine ∈ tw := tw_k tw_s6 59 rfl rfl
theorem lX9_211 : Cond.methodLink RX9 211 yX9_readsWire ∈ tw := tw_k tw_s6 64 rfl rfl
theorem lX9_196 : Cond.methodLink RX9 196 yX9_takesNode ∈ tw := tw_k tw_s6 68 rfl rfl
theorem lX9_219 : Cond.methodLink RX9 219 yX9_readsPlan ∈ tw := tw_k tw_s6 74 rfl rfl
theorem lX9_202 : Cond.methodLink RX9 202 yX9_addsRow ∈ tw := tw_k tw_s6 78 rfl rfl
theorem lL_31 : Cond.methodLink RL 31 yX9_fault ∈ tw := tw_k tw_s6 82 rfl rfl
theorem lL_35 : Cond.methodLink RL 35 yX9_many ∈ tw := tw_k tw_s6 86 rfl rfl
theorem lX9_123 : Cond.methodLink RX9 123 yX9_busy ∈ tw := tw_k tw_s6 90 rfl rfl
theorem lX9_76 : Cond.methodLink RX9 76 yX9_isIdle ∈ tw := tw_k tw_s6 94 rfl rfl
theorem lX9_47 : Cond.methodLink RX9 47 yX9_of ∈ tw := tw_k tw_s6 98 rfl rfl
theorem lX9_131 : Cond.methodLink RX9 131 yX9_sumOf ∈ tw := tw_k tw_s6 102 rfl rfl
theorem lX9_127 : Cond.methodLink RX9 127 yX9_onTheirWay ∈ tw := tw_k tw_s6 106 rfl rfl
theorem lX9_87 : Cond.methodLink RX9 87 yX9_letterOf ∈ tw := tw_k tw_s6 110 rfl rfl
theorem lL_40 : Cond.methodLink RL 40 yX9_node ∈ tw := tw_k tw_s6 114 rfl rfl
theorem lX9_239 : Cond.methodLink RX9 239 yX9_isNode ∈ tw := tw_k tw_s6 118 rfl rfl
theorem lX9_242 : Cond.methodLink RX9 242 yX9_childrenOf ∈ tw := tw_k tw_s6 122 rfl rfl
theorem lL_44 : Cond.methodLink RL 44 yX9_wire ∈ tw := tw_k tw_s6 126 rfl rfl
theorem lX9_245 : Cond.methodLink RX9 245 yX9_asksWire ∈ tw := tw_k tw_s6 130 rfl rfl
theorem lL_48 : Cond.methodLink RL 48 yX9_row ∈ tw := tw_k tw_s6 134 rfl rfl
theorem lL_52 : Cond.methodLink RL 52 yX9_letter ∈ tw := tw_k tw_s6 138 rfl rfl
theorem lL_56 : Cond.methodLink RL 56 yX9_watch ∈ tw := tw_k tw_s6 142 rfl rfl
theorem lX9_249 : Cond.methodLink RX9 249 yX9_asksWatch ∈ tw := tw_k tw_s6 146 rfl rfl
theorem lX9_253 : Cond.methodLink RX9 253 yX9_depth ∈ tw := tw_k tw_s6 150 rfl rfl
theorem lL_60 : Cond.methodLink RL 60 yX9_lag ∈ tw := tw_k tw_s6 154 rfl rfl
theorem lX9_108 : Cond.methodLink RX9 108 yX9_hasTold ∈ tw := tw_k tw_s6 158 rfl rfl
theorem lX9_256 : Cond.methodLink RX9 256 yX9_lagOf ∈ tw := tw_k tw_s6 162 rfl rfl
theorem lL_64 : Cond.methodLink RL 64 yX9_bound ∈ tw := tw_k tw_s6 166 rfl rfl
theorem lX9_265 : Cond.methodLink RX9 265 yX9_boundOf ∈ tw := tw_k tw_s6 170 rfl rfl
theorem lX9_259 : Cond.methodLink RX9 259 yX9_greatestWire ∈ tw := tw_k tw_s6 174 rfl rfl
theorem lX9_262 : Cond.methodLink RX9 262 yX9_round ∈ tw := tw_k tw_s6 178 rfl rfl
theorem lL_68 : Cond.methodLink RL 68 yX9_best ∈ tw := tw_k tw_s6 182 rfl rfl
theorem lL_72 : Cond.methodLink RL 72 yX9_weights ∈ tw := tw_k tw_s6 186 rfl rfl
theorem lL_76 : Cond.methodLink RL 76 yX9_last ∈ tw := tw_k tw_s6 190 rfl rfl
theorem lL_81 : Cond.methodLink RL 81 yX9_ledger ∈ tw := tw_k tw_s6 194 rfl rfl
theorem lL_85 : Cond.methodLink RL 85 yX9_cutting ∈ tw := tw_k tw_s6 198 rfl rfl
theorem lX9_268 : Cond.methodLink RX9 268 yX9_reds ∈ tw := tw_k tw_s6 202 rfl rfl
theorem lL_89 : Cond.methodLink RL 89 yX9_recorded ∈ tw := tw_k tw_s6 206 rfl rfl
theorem lL_93 : Cond.methodLink RL 93 yX9_event ∈ tw := tw_k tw_s6 210 rfl rfl
theorem lL_97 : Cond.methodLink RL 97 yX9_begin ∈ tw := tw_k tw_s6 214 rfl rfl
theorem lX9_144 : Cond.methodLink RX9 144 yX9_isWorking ∈ tw := tw_k tw_s6 218 rfl rfl
theorem lX9_271 : Cond.methodLink RX9 271 yX9_workBegins ∈ tw := tw_k tw_s6 222 rfl rfl
theorem lX9_63 : Cond.methodLink RX9 63 yX9_sets ∈ tw := tw_k tw_s6 226 rfl rfl
theorem lX9_51 : Cond.methodLink RX9 51 yX9_tellsOf ∈ tw := tw_k tw_s6 231 rfl rfl
theorem lL_102 : Cond.methodLink RL 102 yX9_plan ∈ tw := tw_k tw_s6 235 rfl rfl
theorem lL_106 : Cond.methodLink RL 106 yX9_drop ∈ tw := tw_k tw_s6 239 rfl rfl
theorem lL_110 : Cond.methodLink RL 110 yX9_wires ∈ tw := tw_k tw_s7 3 rfl rfl
theorem lL_114 : Cond.methodLink RL 114 yX9_add ∈ tw := tw_k tw_s7 7 rfl rfl
theorem lX9_70 : Cond.methodLink RX9 70 yX9_whitens ∈ tw := tw_k tw_s7 11 rfl rfl
theorem lL_118 : Cond.methodLink RL 118 yX9_sleep ∈ tw := tw_k tw_s7 15 rfl rfl
theorem lL_122 : Cond.methodLink RL 122 yX9_cut ∈ tw := tw_k tw_s7 19 rfl rfl
theorem lX9_274 : Cond.methodLink RX9 274 yX9_begins ∈ tw := tw_k tw_s7 23 rfl rfl
theorem lX9_73 : Cond.methodLink RX9 73 yX9_reddens ∈ tw := tw_k tw_s7 27 rfl rfl
theorem lX9_66 : Cond.methodLink RX9 66 yX9_isAllRed ∈ tw := tw_k tw_s7 31 rfl rfl
theorem lL_126 : Cond.methodLink RL 126 yX9_tick ∈ tw := tw_k tw_s7 35 rfl rfl
theorem lX9_277 : Cond.methodLink RX9 277 yX9_ticks ∈ tw := tw_k tw_s7 39 rfl rfl
theorem lX9_135 : Cond.methodLink RX9 135 yX9_allCome ∈ tw := tw_k tw_s7 43 rfl rfl
theorem lX9_90 : Cond.methodLink RX9 90 yX9_comes ∈ tw := tw_k tw_s7 47 rfl rfl
theorem lX9_84 : Cond.methodLink RX9 84 yX9_comesWork ∈ tw := tw_k tw_s7 51 rfl rfl
theorem lX9_59 : Cond.methodLink RX9 59 yX9_adds ∈ tw := tw_k tw_s7 55 rfl rfl
theorem lX9_80 : Cond.methodLink RX9 80 yX9_signals ∈ tw := tw_k tw_s7 59 rfl rfl
theorem lX9_55 : Cond.methodLink RX9 55 yX9_posts ∈ tw := tw_k tw_s7 63 rfl rfl
theorem lX9_138 : Cond.methodLink RX9 138 yX9_works ∈ tw := tw_k tw_s7 67 rfl rfl
theorem lX9_93 : Cond.methodLink RX9 93 yX9_sendsWork ∈ tw := tw_k tw_s7 71 rfl rfl
theorem lX9_141 : Cond.methodLink RX9 141 yX9_watches ∈ tw := tw_k tw_s7 75 rfl rfl
theorem lX9_111 : Cond.methodLink RX9 111 yX9_watchesTree ∈ tw := tw_k tw_s7 79 rfl rfl
theorem lX9_96 : Cond.methodLink RX9 96 yX9_told ∈ tw := tw_k tw_s7 83 rfl rfl
theorem lX9_114 : Cond.methodLink RX9 114 yX9_watchesToken ∈ tw := tw_k tw_s7 87 rfl rfl
theorem lX9_99 : Cond.methodLink RX9 99 yX9_tokenGoes ∈ tw := tw_k tw_s7 91 rfl rfl
theorem lX9_117 : Cond.methodLink RX9 117 yX9_watchesWeight ∈ tw := tw_k tw_s7 95 rfl rfl
theorem lX9_120 : Cond.methodLink RX9 120 yX9_watchesWaves ∈ tw := tw_k tw_s7 99 rfl rfl
theorem lX9_102 : Cond.methodLink RX9 102 yX9_visitorGoes ∈ tw := tw_k tw_s7 103 rfl rfl
theorem lX9_105 : Cond.methodLink RX9 105 yX9_areAlike ∈ tw := tw_k tw_s7 107 rfl rfl
theorem lX9_147 : Cond.methodLink RX9 147 yX9_measures ∈ tw := tw_k tw_s7 111 rfl rfl
theorem lL_130 : Cond.methodLink RL 130 yX9_mark ∈ tw := tw_k tw_s7 115 rfl rfl
theorem lL_134 : Cond.methodLink RL 134 yX9_back ∈ tw := tw_k tw_s7 119 rfl rfl
theorem lL_138 : Cond.methodLink RL 138 yX9_ends ∈ tw := tw_k tw_s7 123 rfl rfl
theorem lX9_289 : Cond.methodLink RX9 289 yX9_triesTill ∈ tw := tw_k tw_s7 127 rfl rfl
theorem lX9_280 : Cond.methodLink RX9 280 yX9_laysAside ∈ tw := tw_k tw_s7 131 rfl rfl
theorem lX9_283 : Cond.methodLink RX9 283 yX9_till ∈ tw := tw_k tw_s7 135 rfl rfl
theorem lX9_286 : Cond.methodLink RX9 286 yX9_comesBack ∈ tw := tw_k tw_s7 139 rfl rfl
theorem lL_142 : Cond.methodLink RL 142 yX9_tells ∈ tw := tw_k tw_s7 143 rfl rfl
theorem lL_146 : Cond.methodLink RL 146 yX9_whole ∈ tw := tw_k tw_s7 147 rfl rfl
theorem lL_150 : Cond.methodLink RL 150 yX9_would ∈ tw := tw_k tw_s7 151 rfl rfl
theorem lX9_292 : Cond.methodLink RX9 292 yX9_goneBy ∈ tw := tw_k tw_s7 155 rfl rfl
theorem lL_154 : Cond.methodLink RL 154 yX9_with ∈ tw := tw_k tw_s7 159 rfl rfl
theorem lL_158 : Cond.methodLink RL 158 yX9_margin ∈ tw := tw_k tw_s7 163 rfl rfl
theorem lL_162 : Cond.methodLink RL 162 yX9_quickest ∈ tw := tw_k tw_s7 167 rfl rfl
theorem lL_166 : Cond.methodLink RL 166 yX9_enough ∈ tw := tw_k tw_s7 171 rfl rfl
theorem lX9_295 : Cond.methodLink RX9 295 yX9_sentBy ∈ tw := tw_k tw_s7 175 rfl rfl
theorem lX8_9 : Cond.methodLinkNest RX8 9 yX5_init "WorkEnds" ∈ tables_1 := tw_s1 _ (List.mem_of_getElem? (i := 29) rfl)
theorem lX7_23 : Cond.methodLinkNest RX7 23 yX4_init "WorkEnds" ∈ tables_1 := tw_s1 _ (List.mem_of_getElem? (i := 75) rfl)
theorem lX7_30 : Cond.methodLinkNest RX7 30 yX2_init "WorkEnds" ∈ tables_1 := tw_s1 _ (List.mem_of_getElem? (i := 94) rfl)
theorem lX7_37 : Cond.methodLinkNest RX7 37 yX1_init "WorkEnds" ∈ tables_1 := tw_s1 _ (List.mem_of_getElem? (i := 110) rfl)
theorem lX7_44 : Cond.methodLinkNest RX7 44 yX0_init "WorkEnds" ∈ tables_1 := tw_s1 _ (List.mem_of_getElem? (i := 123) rfl)
theorem lX7_51 : Cond.methodLinkNest RX7 51 yX6_init "WorkEnds" ∈ tables_1 := tw_s1 _ (List.mem_of_getElem? (i := 140) rfl)
theorem lX7_56 : Cond.methodLinkNest RX7 56 yX3_init "WorkEnds" ∈ tables_1 := tw_s1 _ (List.mem_of_getElem? (i := 221) rfl)
theorem lX5_118 : Cond.methodLinkNest RX5 118 yX8_isWithin "WorkEnds" ∈ tables_1 := tw_s3 _ (List.mem_of_getElem? (i := 67) rfl)
theorem lX5_111 : Cond.methodLinkNest RX5 111 yX8_wireOf "WorkEnds" ∈ tables_1 := tw_s3 _ (List.mem_of_getElem? (i := 92) rfl)
theorem lX7_273 : Cond.methodLinkNest RX7 273 yX8_flag "WorkEnds" ∈ tables_1 := tw_s3 _ (List.mem_of_getElem? (i := 163) rfl)
theorem lX7_121 : Cond.methodLinkNest RX7 121 yX8_wireOf "WorkEnds" ∈ tables_1 := tw_s4 _ (List.mem_of_getElem? (i := 36) rfl)
theorem lX1_28 : Cond.methodLinkNest RX1 28 yX8_wireOf "WorkEnds" ∈ tables_1 := tw_s5 _ (List.mem_of_getElem? (i := 93) rfl)
theorem kL_7 : Cond.classLink RL 7 RX8 ∈ tw := tw_k tw_s1 19 rfl rfl
theorem kX8_7 : Cond.classLink RX8 7 RX5 ∈ tw := tw_k tw_s1 27 rfl rfl
theorem kX8_16 : Cond.classLink RX8 16 RX7 ∈ tw := tw_k tw_s1 65 rfl rfl
theorem kX7_9 : Cond.classLink RX7 9 RX3 ∈ tw := tw_k tw_s1 71 rfl rfl
theorem kX7_21 : Cond.classLink RX7 21 RX4 ∈ tw := tw_k tw_s1 73 rfl rfl
theorem kX7_28 : Cond.classLink RX7 28 RX2 ∈ tw := tw_k tw_s1 92 rfl rfl
theorem kX7_35 : Cond.classLink RX7 35 RX1 ∈ tw := tw_k tw_s1 108 rfl rfl
theorem kX7_42 : Cond.classLink RX7 42 RX0 ∈ tw := tw_k tw_s1 121 rfl rfl
theorem kX7_49 : Cond.classLink RX7 49 RX6 ∈ tw := tw_k tw_s1 138 rfl rfl
theorem kL_10 : Cond.classLink RL 10 RX9 ∈ tw := tw_k tw_s5 177 rfl rfl
theorem vX7_110 : Cond.constant RX7 110 1048576 ∈ tw := tw_k tw_s4 153 rfl rfl
theorem vX7_363 : Cond.constant RX7 363 1000000 ∈ tw := tw_k tw_s5 110 rfl rfl
theorem vX9_150 : Cond.constant RX9 150 1048576 ∈ tw := tw_k tw_s6 230 rfl rfl
theorem vJ13_314 : Cond.constantLong RJ13 314 6148914691236517205 ∈ tw := tw_k tw_s5 174 rfl rfl
theorem vJ13_316 : Cond.constantLong RJ13 316 3689348814741910323 ∈ tw := tw_k tw_s5 175 rfl rfl
theorem vJ13_318 : Cond.constantLong RJ13 318 1085102592571150095 ∈ tw := tw_k tw_s5 176 rfl rfl
theorem vX9_176 : Cond.constantLong RX9 176 27 ∈ tw := tw_k tw_s6 40 rfl rfl
theorem vX9_178 : Cond.constantLong RX9 178 96 ∈ tw := tw_k tw_s6 41 rfl rfl
theorem vX9_231 : Cond.constantLong RX9 231 7738489 ∈ tw := tw_k tw_s6 42 rfl rfl
theorem vX9_205 : Cond.constantLong RX9 205 459761 ∈ tw := tw_k tw_s6 63 rfl rfl
theorem vX9_215 : Cond.constantLong RX9 215 50849 ∈ tw := tw_k tw_s6 72 rfl rfl
theorem vX9_217 : Cond.constantLong RX9 217 323717 ∈ tw := tw_k tw_s6 73 rfl rfl
theorem nX0 : Cond.instantiable RX0 3 ∈ tw := tw_k tw_s1 122 rfl rfl
theorem nX1 : Cond.instantiable RX1 2 ∈ tw := tw_k tw_s1 109 rfl rfl
theorem nX2 : Cond.instantiable RX2 2 ∈ tw := tw_k tw_s1 93 rfl rfl
theorem nX3 : Cond.instantiable RX3 18 ∈ tw := tw_k tw_s1 220 rfl rfl
theorem nX4 : Cond.instantiable RX4 3 ∈ tw := tw_k tw_s1 74 rfl rfl
theorem nX5 : Cond.instantiable RX5 9 ∈ tw := tw_k tw_s1 28 rfl rfl
theorem nX6 : Cond.instantiable RX6 19 ∈ tw := tw_k tw_s1 139 rfl rfl
theorem nX7 : Cond.instantiable RX7 16 ∈ tw := tw_k tw_s1 66 rfl rfl
theorem nX8 : Cond.instantiable RX8 6 ∈ tw := tw_k tw_s1 20 rfl rfl
theorem nX9 : Cond.instantiable RX9 19 ∈ tw := tw_k tw_s5 178 rfl rfl
theorem w_arrI : Cond.arrayClass .int ∈ tw := tw_k tw_s1 64 rfl rfl
theorem w_arrB : Cond.arrayClass .byte ∈ tw := tw_k tw_s3 145 rfl rfl
theorem w_oi1 : Cond.instanceMethod objectInit ∈ tw := tw_k tw_s1 25 rfl rfl
theorem w_oi2 : Cond.code objectInit ⟨#[0xb1]⟩ 1 none ∈ tw := tw_k tw_s1 26 rfl rfl
theorem w_ac1 : Cond.native arraycopyName ∈ tw := tw_k tw_s3 115 rfl rfl
theorem w_ac2 : Cond.static arraycopyName ∈ tw := tw_k tw_s3 114 rfl rfl
theorem w_ac3 : Cond.initialized "java/lang/System" ∈ tw := tw_k tw_s1 17 rfl rfl
