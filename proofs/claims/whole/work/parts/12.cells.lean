def rc_l : List (List Nat) := [[], [], [], [], [], [], [], [], [9, 0, 51, 0, 0, 37, 81, 0, 92, 96, 48, 103], [], [11, 22, 29, 31, 33, 35, 36], [0, 12, 13, 0, 14, 15, 16, 0, 0, 17, 18, 19, 0, 20, 21, 0, 0, 0], [], [], [], [], [], [], [], [], [], [], [23, 0, 24, 25, 26, 27, 28], [], [], [], [], [], [], [30, 0], [], [32, 0], [], [34, 0], [], [], [], [0, 38, 39, 0, 40, 41, 42, 0, 0, 43, 44, 45, 0, 46, 47, 0, 0, 0], [], [], [], [], [], [], [], [], [], [], [0, 0, 49, 50], [], [], [0, 0, 0, 52, 0, 0, 0, 0, 0], [53, 9, 0, 0, 0, 0, 0, 0], [], [55, 66, 73, 75, 77, 79, 80], [0, 56, 57, 0, 58, 59, 60, 0, 0, 61, 62, 63, 0, 64, 65, 0, 0, 0], [], [], [], [], [], [], [], [], [], [], [67, 0, 68, 69, 70, 71, 72], [], [], [], [], [], [], [74, 0], [], [76, 0], [], [78, 0], [], [], [], [0, 82, 83, 0, 84, 85, 86, 0, 0, 87, 88, 89, 0, 90, 91, 0, 0, 0], [], [], [], [], [], [], [], [], [], [], [0, 93, 94, 95], [], [], [], [0, 0, 0, 97, 98, 99, 100, 101, 102], [], [], [], [], [], [], [0, 48, 104, 115, 116, 117, 118, 119, 120], [0, 105, 106, 0, 107, 108, 109, 0, 0, 110, 111, 112, 0, 113, 114, 0, 0, 0], [], [], [], [], [], [], [], [], [], [], [], [], [], [], [], [], [0, 122, 0, 123, 124, 125, 126, 127, 128, 129, 130, 131, 132, 133, 134, 135, 136, 137, 138, 139, 0, 0, 0, 0, 0, 0, 0, 0, 0, 0, 0, 0, 0, 140, 141, 0, 142, 143, 144, 145, 146, 147, 148, 149, 150, 151, 152, 0, 0, 0, 0, 0, 0, 153, 154, 0, 0, 0, 155, 156, 157, 158, 0, 0, 159, 160, 161, 162, 163, 164], [], [], [], [], [], [], [], [], [], [], [], [], [], [], [], [], [], [], [], [], [], [], [], [], [], [], [], [], [], [], [], [], [], [], [], [], [], [], [], [], [], [], [], []]
/-- the references: the script's length, then what may change: the plan, the spare one, the nose's laws and town, the reader's plan -/
def rf_ (L P S a b c : Nat) (k j : Nat) : Nat :=
  if k = 8 ∧ j = 3 then P else if k = 8 ∧ j = 4 then S else if k = 48 ∧ j = 0 then a else if k = 48 ∧ j = 1 then b else if k = 51 ∧ j = 4 then c else if k = 1 ∧ j = 0 then L else if k = 2 ∧ j = 0 then 3 else (rc_l.getD k []).getD j 0
theorem rf_uP {L P S a b c q : Nat} : ax_up (rf_ L P S a b c) 8 3 q = rf_ L q S a b c := by
  funext k' j'
  unfold ax_up
  by_cases h : k' = 8
  · subst h
    by_cases h2 : j' = 3
    · subst h2; rfl
    · rw [if_pos rfl, if_neg h2]; unfold rf_; simp [h2]
  · rw [if_neg h]; unfold rf_; simp [h]
theorem rf_uS {L P S a b c q : Nat} : ax_up (rf_ L P S a b c) 8 4 q = rf_ L P q a b c := by
  funext k' j'
  unfold ax_up
  by_cases h : k' = 8
  · subst h
    by_cases h2 : j' = 4
    · subst h2; rfl
    · rw [if_pos rfl, if_neg h2]; unfold rf_; simp [h2]
  · rw [if_neg h]; unfold rf_; simp [h]
theorem rf_uL {L P S a b c q : Nat} : ax_up (rf_ L P S a b c) 48 0 q = rf_ L P S q b c := by
  funext k' j'
  unfold ax_up
  by_cases h : k' = 48
  · subst h
    by_cases h2 : j' = 0
    · subst h2; rfl
    · rw [if_pos rfl, if_neg h2]; unfold rf_; simp [h2]
  · rw [if_neg h]; unfold rf_; simp [h]
theorem rf_uT {L P S a b c q : Nat} : ax_up (rf_ L P S a b c) 48 1 q = rf_ L P S a q c := by
  funext k' j'
  unfold ax_up
  by_cases h : k' = 48
  · subst h
    by_cases h2 : j' = 1
    · subst h2; rfl
    · rw [if_pos rfl, if_neg h2]; unfold rf_; simp [h2]
  · rw [if_neg h]; unfold rf_; simp [h]
theorem rf_uR {L P S a b c q : Nat} : ax_up (rf_ L P S a b c) 51 4 q = rf_ L P S a b q := by
  funext k' j'
  unfold ax_up
  by_cases h : k' = 51
  · subst h
    by_cases h2 : j' = 4
    · subst h2; rfl
    · rw [if_pos rfl, if_neg h2]; unfold rf_; simp [h2]
  · rw [if_neg h]; unfold rf_; simp [h]
theorem rf_8_3 {L P S a b c : Nat} : rf_ L P S a b c 8 3 = P := Eq.trans rfl rfl
theorem rf_8_4 {L P S a b c : Nat} : rf_ L P S a b c 8 4 = S := Eq.trans rfl rfl
theorem rf_48_0 {L P S a b c : Nat} : rf_ L P S a b c 48 0 = a := Eq.trans rfl rfl
theorem rf_48_1 {L P S a b c : Nat} : rf_ L P S a b c 48 1 = b := Eq.trans rfl rfl
theorem rf_51_4 {L P S a b c : Nat} : rf_ L P S a b c 51 4 = c := Eq.trans rfl rfl
theorem rf_1_0 {L P S a b c : Nat} : rf_ L P S a b c 1 0 = L := Eq.trans rfl rfl
theorem rf_2_0 {L P S a b c : Nat} : rf_ L P S a b c 2 0 = 3 := Eq.trans rfl rfl
theorem rf_8_0 {L P S a b c : Nat} : rf_ L P S a b c 8 0 = 9 := Eq.trans rfl rfl
theorem rf_8_2 {L P S a b c : Nat} : rf_ L P S a b c 8 2 = 51 := Eq.trans rfl rfl
theorem rf_8_5 {L P S a b c : Nat} : rf_ L P S a b c 8 5 = 37 := Eq.trans rfl rfl
theorem rf_8_6 {L P S a b c : Nat} : rf_ L P S a b c 8 6 = 81 := Eq.trans rfl rfl
theorem rf_8_8 {L P S a b c : Nat} : rf_ L P S a b c 8 8 = 92 := Eq.trans rfl rfl
theorem rf_8_9 {L P S a b c : Nat} : rf_ L P S a b c 8 9 = 96 := Eq.trans rfl rfl
theorem rf_8_10 {L P S a b c : Nat} : rf_ L P S a b c 8 10 = 48 := Eq.trans rfl rfl
theorem rf_8_11 {L P S a b c : Nat} : rf_ L P S a b c 8 11 = 103 := Eq.trans rfl rfl
theorem rf_48_2 {L P S a b c : Nat} : rf_ L P S a b c 48 2 = 49 := Eq.trans rfl rfl
theorem rf_48_3 {L P S a b c : Nat} : rf_ L P S a b c 48 3 = 50 := Eq.trans rfl rfl
theorem rf_51_3 {L P S a b c : Nat} : rf_ L P S a b c 51 3 = 52 := Eq.trans rfl rfl
theorem rf_52_0 {L P S a b c : Nat} : rf_ L P S a b c 52 0 = 53 := Eq.trans rfl rfl
theorem rf_52_1 {L P S a b c : Nat} : rf_ L P S a b c 52 1 = 9 := Eq.trans rfl rfl
theorem rf_92_1 {L P S a b c : Nat} : rf_ L P S a b c 92 1 = 93 := Eq.trans rfl rfl
theorem rf_92_2 {L P S a b c : Nat} : rf_ L P S a b c 92 2 = 94 := Eq.trans rfl rfl
theorem rf_92_3 {L P S a b c : Nat} : rf_ L P S a b c 92 3 = 95 := Eq.trans rfl rfl
theorem rf_96_3 {L P S a b c : Nat} : rf_ L P S a b c 96 3 = 97 := Eq.trans rfl rfl
theorem rf_96_4 {L P S a b c : Nat} : rf_ L P S a b c 96 4 = 98 := Eq.trans rfl rfl
theorem rf_96_5 {L P S a b c : Nat} : rf_ L P S a b c 96 5 = 99 := Eq.trans rfl rfl
theorem rf_96_6 {L P S a b c : Nat} : rf_ L P S a b c 96 6 = 100 := Eq.trans rfl rfl
theorem rf_96_7 {L P S a b c : Nat} : rf_ L P S a b c 96 7 = 101 := Eq.trans rfl rfl
theorem rf_96_8 {L P S a b c : Nat} : rf_ L P S a b c 96 8 = 102 := Eq.trans rfl rfl
theorem rf_103_1 {L P S a b c : Nat} : rf_ L P S a b c 103 1 = 48 := Eq.trans rfl rfl
theorem rf_103_2 {L P S a b c : Nat} : rf_ L P S a b c 103 2 = 104 := Eq.trans rfl rfl
theorem rf_103_3 {L P S a b c : Nat} : rf_ L P S a b c 103 3 = 115 := Eq.trans rfl rfl
theorem rf_103_4 {L P S a b c : Nat} : rf_ L P S a b c 103 4 = 116 := Eq.trans rfl rfl
theorem rf_103_5 {L P S a b c : Nat} : rf_ L P S a b c 103 5 = 117 := Eq.trans rfl rfl
theorem rf_103_6 {L P S a b c : Nat} : rf_ L P S a b c 103 6 = 118 := Eq.trans rfl rfl
theorem rf_103_7 {L P S a b c : Nat} : rf_ L P S a b c 103 7 = 119 := Eq.trans rfl rfl
theorem rf_103_8 {L P S a b c : Nat} : rf_ L P S a b c 103 8 = 120 := Eq.trans rfl rfl
theorem rf_121_1 {L P S a b c : Nat} : rf_ L P S a b c 121 1 = 122 := Eq.trans rfl rfl
theorem rf_121_3 {L P S a b c : Nat} : rf_ L P S a b c 121 3 = 123 := Eq.trans rfl rfl
theorem rf_121_4 {L P S a b c : Nat} : rf_ L P S a b c 121 4 = 124 := Eq.trans rfl rfl
theorem rf_121_5 {L P S a b c : Nat} : rf_ L P S a b c 121 5 = 125 := Eq.trans rfl rfl
theorem rf_121_6 {L P S a b c : Nat} : rf_ L P S a b c 121 6 = 126 := Eq.trans rfl rfl
theorem rf_121_7 {L P S a b c : Nat} : rf_ L P S a b c 121 7 = 127 := Eq.trans rfl rfl
theorem rf_121_8 {L P S a b c : Nat} : rf_ L P S a b c 121 8 = 128 := Eq.trans rfl rfl
theorem rf_121_9 {L P S a b c : Nat} : rf_ L P S a b c 121 9 = 129 := Eq.trans rfl rfl
theorem rf_121_10 {L P S a b c : Nat} : rf_ L P S a b c 121 10 = 130 := Eq.trans rfl rfl
theorem rf_121_11 {L P S a b c : Nat} : rf_ L P S a b c 121 11 = 131 := Eq.trans rfl rfl
theorem rf_121_12 {L P S a b c : Nat} : rf_ L P S a b c 121 12 = 132 := Eq.trans rfl rfl
theorem rf_121_13 {L P S a b c : Nat} : rf_ L P S a b c 121 13 = 133 := Eq.trans rfl rfl
theorem rf_121_14 {L P S a b c : Nat} : rf_ L P S a b c 121 14 = 134 := Eq.trans rfl rfl
theorem rf_121_15 {L P S a b c : Nat} : rf_ L P S a b c 121 15 = 135 := Eq.trans rfl rfl
theorem rf_121_16 {L P S a b c : Nat} : rf_ L P S a b c 121 16 = 136 := Eq.trans rfl rfl
theorem rf_121_17 {L P S a b c : Nat} : rf_ L P S a b c 121 17 = 137 := Eq.trans rfl rfl
theorem rf_121_18 {L P S a b c : Nat} : rf_ L P S a b c 121 18 = 138 := Eq.trans rfl rfl
theorem rf_121_19 {L P S a b c : Nat} : rf_ L P S a b c 121 19 = 139 := Eq.trans rfl rfl
theorem rf_121_33 {L P S a b c : Nat} : rf_ L P S a b c 121 33 = 140 := Eq.trans rfl rfl
theorem rf_121_34 {L P S a b c : Nat} : rf_ L P S a b c 121 34 = 141 := Eq.trans rfl rfl
theorem rf_121_36 {L P S a b c : Nat} : rf_ L P S a b c 121 36 = 142 := Eq.trans rfl rfl
theorem rf_121_37 {L P S a b c : Nat} : rf_ L P S a b c 121 37 = 143 := Eq.trans rfl rfl
theorem rf_121_38 {L P S a b c : Nat} : rf_ L P S a b c 121 38 = 144 := Eq.trans rfl rfl
theorem rf_121_39 {L P S a b c : Nat} : rf_ L P S a b c 121 39 = 145 := Eq.trans rfl rfl
theorem rf_121_40 {L P S a b c : Nat} : rf_ L P S a b c 121 40 = 146 := Eq.trans rfl rfl
theorem rf_121_41 {L P S a b c : Nat} : rf_ L P S a b c 121 41 = 147 := Eq.trans rfl rfl
theorem rf_121_42 {L P S a b c : Nat} : rf_ L P S a b c 121 42 = 148 := Eq.trans rfl rfl
theorem rf_121_43 {L P S a b c : Nat} : rf_ L P S a b c 121 43 = 149 := Eq.trans rfl rfl
theorem rf_121_44 {L P S a b c : Nat} : rf_ L P S a b c 121 44 = 150 := Eq.trans rfl rfl
theorem rf_121_45 {L P S a b c : Nat} : rf_ L P S a b c 121 45 = 151 := Eq.trans rfl rfl
theorem rf_121_46 {L P S a b c : Nat} : rf_ L P S a b c 121 46 = 152 := Eq.trans rfl rfl
theorem rf_121_53 {L P S a b c : Nat} : rf_ L P S a b c 121 53 = 153 := Eq.trans rfl rfl
theorem rf_121_54 {L P S a b c : Nat} : rf_ L P S a b c 121 54 = 154 := Eq.trans rfl rfl
theorem rf_121_58 {L P S a b c : Nat} : rf_ L P S a b c 121 58 = 155 := Eq.trans rfl rfl
theorem rf_121_59 {L P S a b c : Nat} : rf_ L P S a b c 121 59 = 156 := Eq.trans rfl rfl
theorem rf_121_60 {L P S a b c : Nat} : rf_ L P S a b c 121 60 = 157 := Eq.trans rfl rfl
theorem rf_121_61 {L P S a b c : Nat} : rf_ L P S a b c 121 61 = 158 := Eq.trans rfl rfl
theorem rf_121_64 {L P S a b c : Nat} : rf_ L P S a b c 121 64 = 159 := Eq.trans rfl rfl
theorem rf_121_65 {L P S a b c : Nat} : rf_ L P S a b c 121 65 = 160 := Eq.trans rfl rfl
theorem rf_121_66 {L P S a b c : Nat} : rf_ L P S a b c 121 66 = 161 := Eq.trans rfl rfl
theorem rf_121_67 {L P S a b c : Nat} : rf_ L P S a b c 121 67 = 162 := Eq.trans rfl rfl
theorem rf_121_68 {L P S a b c : Nat} : rf_ L P S a b c 121 68 = 163 := Eq.trans rfl rfl
theorem rf_121_69 {L P S a b c : Nat} : rf_ L P S a b c 121 69 = 164 := Eq.trans rfl rfl
theorem ob_8 : ax_ob none 8 14 = true := Eq.trans rfl rfl
theorem ob_9 : ax_ob none 9 0 = true := Eq.trans rfl rfl
theorem sh_9 : (ax_SH 9).2 = 700 := Eq.trans rfl rfl
theorem rd_9 {mi : Nat → Nat → Int32} {ml : Nat → Nat → Int64} {mr : Nat → Nat → Nat} {x : Int32} : ax_rd (none, mi, ml, mr) 9 x = vp_in x 700 := propext ⟨fun h => h.elim (fun h => h.2.2) (fun h => absurd h.1 (by decide)), fun h => Or.inl ⟨by decide, rfl, h⟩⟩
theorem ob_10 : ax_ob none 10 9 = true := Eq.trans rfl rfl
theorem ob_11 : ax_ob none 11 13 = true := Eq.trans rfl rfl
theorem ob_12 : ax_ob none 12 0 = true := Eq.trans rfl rfl
theorem sh_12 : (ax_SH 12).2 = 7 := Eq.trans rfl rfl
theorem rd_12 {mi : Nat → Nat → Int32} {ml : Nat → Nat → Int64} {mr : Nat → Nat → Nat} {x : Int32} : ax_rd (none, mi, ml, mr) 12 x = vp_in x 7 := propext ⟨fun h => h.elim (fun h => h.2.2) (fun h => absurd h.1 (by decide)), fun h => Or.inl ⟨by decide, rfl, h⟩⟩
theorem ob_13 : ax_ob none 13 0 = true := Eq.trans rfl rfl
theorem sh_13 : (ax_SH 13).2 = 7 := Eq.trans rfl rfl
theorem rd_13 {mi : Nat → Nat → Int32} {ml : Nat → Nat → Int64} {mr : Nat → Nat → Nat} {x : Int32} : ax_rd (none, mi, ml, mr) 13 x = vp_in x 7 := propext ⟨fun h => h.elim (fun h => h.2.2) (fun h => absurd h.1 (by decide)), fun h => Or.inl ⟨by decide, rfl, h⟩⟩
theorem ob_14 : ax_ob none 14 0 = true := Eq.trans rfl rfl
theorem sh_14 : (ax_SH 14).2 = 9 := Eq.trans rfl rfl
theorem rd_14 {mi : Nat → Nat → Int32} {ml : Nat → Nat → Int64} {mr : Nat → Nat → Nat} {x : Int32} : ax_rd (none, mi, ml, mr) 14 x = vp_in x 9 := propext ⟨fun h => h.elim (fun h => h.2.2) (fun h => absurd h.1 (by decide)), fun h => Or.inl ⟨by decide, rfl, h⟩⟩
theorem ob_15 : ax_ob none 15 0 = true := Eq.trans rfl rfl
theorem sh_15 : (ax_SH 15).2 = 9 := Eq.trans rfl rfl
theorem rd_15 {mi : Nat → Nat → Int32} {ml : Nat → Nat → Int64} {mr : Nat → Nat → Nat} {x : Int32} : ax_rd (none, mi, ml, mr) 15 x = vp_in x 9 := propext ⟨fun h => h.elim (fun h => h.2.2) (fun h => absurd h.1 (by decide)), fun h => Or.inl ⟨by decide, rfl, h⟩⟩
theorem ob_16 : ax_ob none 16 0 = true := Eq.trans rfl rfl
theorem sh_16 : (ax_SH 16).2 = 9 := Eq.trans rfl rfl
theorem rd_16 {mi : Nat → Nat → Int32} {ml : Nat → Nat → Int64} {mr : Nat → Nat → Nat} {x : Int32} : ax_rd (none, mi, ml, mr) 16 x = vp_in x 9 := propext ⟨fun h => h.elim (fun h => h.2.2) (fun h => absurd h.1 (by decide)), fun h => Or.inl ⟨by decide, rfl, h⟩⟩
theorem ob_17 : ax_ob none 17 0 = true := Eq.trans rfl rfl
theorem sh_17 : (ax_SH 17).2 = 12 := Eq.trans rfl rfl
theorem rd_17 {mi : Nat → Nat → Int32} {ml : Nat → Nat → Int64} {mr : Nat → Nat → Nat} {x : Int32} : ax_rd (none, mi, ml, mr) 17 x = vp_in x 12 := propext ⟨fun h => h.elim (fun h => h.2.2) (fun h => absurd h.1 (by decide)), fun h => Or.inl ⟨by decide, rfl, h⟩⟩
theorem ob_18 : ax_ob none 18 0 = true := Eq.trans rfl rfl
theorem sh_18 : (ax_SH 18).2 = 12 := Eq.trans rfl rfl
theorem rd_18 {mi : Nat → Nat → Int32} {ml : Nat → Nat → Int64} {mr : Nat → Nat → Nat} {x : Int32} : ax_rd (none, mi, ml, mr) 18 x = vp_in x 12 := propext ⟨fun h => h.elim (fun h => h.2.2) (fun h => absurd h.1 (by decide)), fun h => Or.inl ⟨by decide, rfl, h⟩⟩
theorem ob_19 : ax_ob none 19 0 = true := Eq.trans rfl rfl
theorem sh_19 : (ax_SH 19).2 = 12 := Eq.trans rfl rfl
theorem rd_19 {mi : Nat → Nat → Int32} {ml : Nat → Nat → Int64} {mr : Nat → Nat → Nat} {x : Int32} : ax_rd (none, mi, ml, mr) 19 x = vp_in x 12 := propext ⟨fun h => h.elim (fun h => h.2.2) (fun h => absurd h.1 (by decide)), fun h => Or.inl ⟨by decide, rfl, h⟩⟩
theorem ob_20 : ax_ob none 20 0 = true := Eq.trans rfl rfl
theorem sh_20 : (ax_SH 20).2 = 3 := Eq.trans rfl rfl
theorem rd_20 {mi : Nat → Nat → Int32} {ml : Nat → Nat → Int64} {mr : Nat → Nat → Nat} {x : Int32} : ax_rd (none, mi, ml, mr) 20 x = vp_in x 3 := propext ⟨fun h => h.elim (fun h => h.2.2) (fun h => absurd h.1 (by decide)), fun h => Or.inl ⟨by decide, rfl, h⟩⟩
theorem ob_21 : ax_ob none 21 0 = true := Eq.trans rfl rfl
theorem sh_21 : (ax_SH 21).2 = 3 := Eq.trans rfl rfl
theorem rd_21 {mi : Nat → Nat → Int32} {ml : Nat → Nat → Int64} {mr : Nat → Nat → Nat} {x : Int32} : ax_rd (none, mi, ml, mr) 21 x = vp_in x 3 := propext ⟨fun h => h.elim (fun h => h.2.2) (fun h => absurd h.1 (by decide)), fun h => Or.inl ⟨by decide, rfl, h⟩⟩
theorem ob_22 : ax_ob none 22 4 = true := Eq.trans rfl rfl
theorem ob_23 : ax_ob none 23 0 = true := Eq.trans rfl rfl
theorem sh_23 : (ax_SH 23).2 = 64 := Eq.trans rfl rfl
theorem rd_23 {mi : Nat → Nat → Int32} {ml : Nat → Nat → Int64} {mr : Nat → Nat → Nat} {x : Int32} : ax_rd (none, mi, ml, mr) 23 x = vp_in x 64 := propext ⟨fun h => h.elim (fun h => h.2.2) (fun h => absurd h.1 (by decide)), fun h => Or.inl ⟨by decide, rfl, h⟩⟩
theorem ob_24 : ax_ob none 24 0 = true := Eq.trans rfl rfl
theorem sh_24 : (ax_SH 24).2 = 3 := Eq.trans rfl rfl
theorem rd_24 {mi : Nat → Nat → Int32} {ml : Nat → Nat → Int64} {mr : Nat → Nat → Nat} {x : Int32} : ax_rd (none, mi, ml, mr) 24 x = vp_in x 3 := propext ⟨fun h => h.elim (fun h => h.2.2) (fun h => absurd h.1 (by decide)), fun h => Or.inl ⟨by decide, rfl, h⟩⟩
theorem ob_25 : ax_ob none 25 0 = true := Eq.trans rfl rfl
theorem sh_25 : (ax_SH 25).2 = 3 := Eq.trans rfl rfl
theorem rd_25 {mi : Nat → Nat → Int32} {ml : Nat → Nat → Int64} {mr : Nat → Nat → Nat} {x : Int32} : ax_rd (none, mi, ml, mr) 25 x = vp_in x 3 := propext ⟨fun h => h.elim (fun h => h.2.2) (fun h => absurd h.1 (by decide)), fun h => Or.inl ⟨by decide, rfl, h⟩⟩
theorem ob_26 : ax_ob none 26 1 = true := Eq.trans rfl rfl
theorem sh_26 : (ax_SH 26).2 = 3 := Eq.trans rfl rfl
theorem ob_27 : ax_ob none 27 2 = true := Eq.trans rfl rfl
theorem sh_27 : (ax_SH 27).2 = 7 := Eq.trans rfl rfl
theorem ob_28 : ax_ob none 28 2 = true := Eq.trans rfl rfl
theorem sh_28 : (ax_SH 28).2 = 64 := Eq.trans rfl rfl
theorem ob_29 : ax_ob none 29 5 = true := Eq.trans rfl rfl
theorem ob_30 : ax_ob none 30 0 = true := Eq.trans rfl rfl
theorem sh_30 : (ax_SH 30).2 = 9 := Eq.trans rfl rfl
theorem rd_30 {mi : Nat → Nat → Int32} {ml : Nat → Nat → Int64} {mr : Nat → Nat → Nat} {x : Int32} : ax_rd (none, mi, ml, mr) 30 x = vp_in x 9 := propext ⟨fun h => h.elim (fun h => h.2.2) (fun h => absurd h.1 (by decide)), fun h => Or.inl ⟨by decide, rfl, h⟩⟩
theorem ob_31 : ax_ob none 31 5 = true := Eq.trans rfl rfl
theorem ob_32 : ax_ob none 32 0 = true := Eq.trans rfl rfl
theorem sh_32 : (ax_SH 32).2 = 9 := Eq.trans rfl rfl
theorem rd_32 {mi : Nat → Nat → Int32} {ml : Nat → Nat → Int64} {mr : Nat → Nat → Nat} {x : Int32} : ax_rd (none, mi, ml, mr) 32 x = vp_in x 9 := propext ⟨fun h => h.elim (fun h => h.2.2) (fun h => absurd h.1 (by decide)), fun h => Or.inl ⟨by decide, rfl, h⟩⟩
theorem ob_33 : ax_ob none 33 5 = true := Eq.trans rfl rfl
theorem ob_34 : ax_ob none 34 0 = true := Eq.trans rfl rfl
theorem sh_34 : (ax_SH 34).2 = 9 := Eq.trans rfl rfl
theorem rd_34 {mi : Nat → Nat → Int32} {ml : Nat → Nat → Int64} {mr : Nat → Nat → Nat} {x : Int32} : ax_rd (none, mi, ml, mr) 34 x = vp_in x 9 := propext ⟨fun h => h.elim (fun h => h.2.2) (fun h => absurd h.1 (by decide)), fun h => Or.inl ⟨by decide, rfl, h⟩⟩
theorem ob_35 : ax_ob none 35 1 = true := Eq.trans rfl rfl
theorem sh_35 : (ax_SH 35).2 = 7 := Eq.trans rfl rfl
theorem ob_36 : ax_ob none 36 1 = true := Eq.trans rfl rfl
theorem sh_36 : (ax_SH 36).2 = 3 := Eq.trans rfl rfl
theorem ob_37 : ax_ob none 37 13 = true := Eq.trans rfl rfl
theorem ob_38 : ax_ob none 38 0 = true := Eq.trans rfl rfl
theorem sh_38 : (ax_SH 38).2 = 7 := Eq.trans rfl rfl
theorem rd_38 {mi : Nat → Nat → Int32} {ml : Nat → Nat → Int64} {mr : Nat → Nat → Nat} {x : Int32} : ax_rd (none, mi, ml, mr) 38 x = vp_in x 7 := propext ⟨fun h => h.elim (fun h => h.2.2) (fun h => absurd h.1 (by decide)), fun h => Or.inl ⟨by decide, rfl, h⟩⟩
theorem ob_39 : ax_ob none 39 0 = true := Eq.trans rfl rfl
theorem sh_39 : (ax_SH 39).2 = 7 := Eq.trans rfl rfl
theorem rd_39 {mi : Nat → Nat → Int32} {ml : Nat → Nat → Int64} {mr : Nat → Nat → Nat} {x : Int32} : ax_rd (none, mi, ml, mr) 39 x = vp_in x 7 := propext ⟨fun h => h.elim (fun h => h.2.2) (fun h => absurd h.1 (by decide)), fun h => Or.inl ⟨by decide, rfl, h⟩⟩
theorem ob_40 : ax_ob none 40 0 = true := Eq.trans rfl rfl
theorem sh_40 : (ax_SH 40).2 = 9 := Eq.trans rfl rfl
theorem rd_40 {mi : Nat → Nat → Int32} {ml : Nat → Nat → Int64} {mr : Nat → Nat → Nat} {x : Int32} : ax_rd (none, mi, ml, mr) 40 x = vp_in x 9 := propext ⟨fun h => h.elim (fun h => h.2.2) (fun h => absurd h.1 (by decide)), fun h => Or.inl ⟨by decide, rfl, h⟩⟩
theorem ob_41 : ax_ob none 41 0 = true := Eq.trans rfl rfl
theorem sh_41 : (ax_SH 41).2 = 9 := Eq.trans rfl rfl
theorem rd_41 {mi : Nat → Nat → Int32} {ml : Nat → Nat → Int64} {mr : Nat → Nat → Nat} {x : Int32} : ax_rd (none, mi, ml, mr) 41 x = vp_in x 9 := propext ⟨fun h => h.elim (fun h => h.2.2) (fun h => absurd h.1 (by decide)), fun h => Or.inl ⟨by decide, rfl, h⟩⟩
theorem ob_42 : ax_ob none 42 0 = true := Eq.trans rfl rfl
theorem sh_42 : (ax_SH 42).2 = 9 := Eq.trans rfl rfl
theorem rd_42 {mi : Nat → Nat → Int32} {ml : Nat → Nat → Int64} {mr : Nat → Nat → Nat} {x : Int32} : ax_rd (none, mi, ml, mr) 42 x = vp_in x 9 := propext ⟨fun h => h.elim (fun h => h.2.2) (fun h => absurd h.1 (by decide)), fun h => Or.inl ⟨by decide, rfl, h⟩⟩
theorem ob_43 : ax_ob none 43 0 = true := Eq.trans rfl rfl
theorem sh_43 : (ax_SH 43).2 = 12 := Eq.trans rfl rfl
theorem rd_43 {mi : Nat → Nat → Int32} {ml : Nat → Nat → Int64} {mr : Nat → Nat → Nat} {x : Int32} : ax_rd (none, mi, ml, mr) 43 x = vp_in x 12 := propext ⟨fun h => h.elim (fun h => h.2.2) (fun h => absurd h.1 (by decide)), fun h => Or.inl ⟨by decide, rfl, h⟩⟩
theorem ob_44 : ax_ob none 44 0 = true := Eq.trans rfl rfl
theorem sh_44 : (ax_SH 44).2 = 12 := Eq.trans rfl rfl
theorem rd_44 {mi : Nat → Nat → Int32} {ml : Nat → Nat → Int64} {mr : Nat → Nat → Nat} {x : Int32} : ax_rd (none, mi, ml, mr) 44 x = vp_in x 12 := propext ⟨fun h => h.elim (fun h => h.2.2) (fun h => absurd h.1 (by decide)), fun h => Or.inl ⟨by decide, rfl, h⟩⟩
theorem ob_45 : ax_ob none 45 0 = true := Eq.trans rfl rfl
theorem sh_45 : (ax_SH 45).2 = 12 := Eq.trans rfl rfl
theorem rd_45 {mi : Nat → Nat → Int32} {ml : Nat → Nat → Int64} {mr : Nat → Nat → Nat} {x : Int32} : ax_rd (none, mi, ml, mr) 45 x = vp_in x 12 := propext ⟨fun h => h.elim (fun h => h.2.2) (fun h => absurd h.1 (by decide)), fun h => Or.inl ⟨by decide, rfl, h⟩⟩
theorem ob_46 : ax_ob none 46 0 = true := Eq.trans rfl rfl
theorem sh_46 : (ax_SH 46).2 = 3 := Eq.trans rfl rfl
theorem rd_46 {mi : Nat → Nat → Int32} {ml : Nat → Nat → Int64} {mr : Nat → Nat → Nat} {x : Int32} : ax_rd (none, mi, ml, mr) 46 x = vp_in x 3 := propext ⟨fun h => h.elim (fun h => h.2.2) (fun h => absurd h.1 (by decide)), fun h => Or.inl ⟨by decide, rfl, h⟩⟩
theorem ob_47 : ax_ob none 47 0 = true := Eq.trans rfl rfl
theorem sh_47 : (ax_SH 47).2 = 3 := Eq.trans rfl rfl
theorem rd_47 {mi : Nat → Nat → Int32} {ml : Nat → Nat → Int64} {mr : Nat → Nat → Nat} {x : Int32} : ax_rd (none, mi, ml, mr) 47 x = vp_in x 3 := propext ⟨fun h => h.elim (fun h => h.2.2) (fun h => absurd h.1 (by decide)), fun h => Or.inl ⟨by decide, rfl, h⟩⟩
theorem ob_48 : ax_ob none 48 6 = true := Eq.trans rfl rfl
theorem ob_49 : ax_ob none 49 0 = true := Eq.trans rfl rfl
theorem sh_49 : (ax_SH 49).2 = 9 := Eq.trans rfl rfl
theorem rd_49 {mi : Nat → Nat → Int32} {ml : Nat → Nat → Int64} {mr : Nat → Nat → Nat} {x : Int32} : ax_rd (none, mi, ml, mr) 49 x = vp_in x 9 := propext ⟨fun h => h.elim (fun h => h.2.2) (fun h => absurd h.1 (by decide)), fun h => Or.inl ⟨by decide, rfl, h⟩⟩
theorem ob_50 : ax_ob none 50 0 = true := Eq.trans rfl rfl
theorem sh_50 : (ax_SH 50).2 = 56 := Eq.trans rfl rfl
theorem rd_50 {mi : Nat → Nat → Int32} {ml : Nat → Nat → Int64} {mr : Nat → Nat → Nat} {x : Int32} : ax_rd (none, mi, ml, mr) 50 x = vp_in x 56 := propext ⟨fun h => h.elim (fun h => h.2.2) (fun h => absurd h.1 (by decide)), fun h => Or.inl ⟨by decide, rfl, h⟩⟩
theorem ob_51 : ax_ob none 51 11 = true := Eq.trans rfl rfl
theorem ob_52 : ax_ob none 52 12 = true := Eq.trans rfl rfl
theorem ob_53 : ax_ob none 53 0 = true := Eq.trans rfl rfl
theorem sh_53 : (ax_SH 53).2 = 21 := Eq.trans rfl rfl
theorem rd_53 {mi : Nat → Nat → Int32} {ml : Nat → Nat → Int64} {mr : Nat → Nat → Nat} {x : Int32} : ax_rd (none, mi, ml, mr) 53 x = vp_in x 21 := propext ⟨fun h => h.elim (fun h => h.2.2) (fun h => absurd h.1 (by decide)), fun h => Or.inl ⟨by decide, rfl, h⟩⟩
theorem ob_54 : ax_ob none 54 9 = true := Eq.trans rfl rfl
theorem ob_55 : ax_ob none 55 13 = true := Eq.trans rfl rfl
theorem ob_56 : ax_ob none 56 0 = true := Eq.trans rfl rfl
theorem sh_56 : (ax_SH 56).2 = 7 := Eq.trans rfl rfl
theorem rd_56 {mi : Nat → Nat → Int32} {ml : Nat → Nat → Int64} {mr : Nat → Nat → Nat} {x : Int32} : ax_rd (none, mi, ml, mr) 56 x = vp_in x 7 := propext ⟨fun h => h.elim (fun h => h.2.2) (fun h => absurd h.1 (by decide)), fun h => Or.inl ⟨by decide, rfl, h⟩⟩
theorem ob_57 : ax_ob none 57 0 = true := Eq.trans rfl rfl
theorem sh_57 : (ax_SH 57).2 = 7 := Eq.trans rfl rfl
theorem rd_57 {mi : Nat → Nat → Int32} {ml : Nat → Nat → Int64} {mr : Nat → Nat → Nat} {x : Int32} : ax_rd (none, mi, ml, mr) 57 x = vp_in x 7 := propext ⟨fun h => h.elim (fun h => h.2.2) (fun h => absurd h.1 (by decide)), fun h => Or.inl ⟨by decide, rfl, h⟩⟩
theorem ob_58 : ax_ob none 58 0 = true := Eq.trans rfl rfl
theorem sh_58 : (ax_SH 58).2 = 9 := Eq.trans rfl rfl
theorem rd_58 {mi : Nat → Nat → Int32} {ml : Nat → Nat → Int64} {mr : Nat → Nat → Nat} {x : Int32} : ax_rd (none, mi, ml, mr) 58 x = vp_in x 9 := propext ⟨fun h => h.elim (fun h => h.2.2) (fun h => absurd h.1 (by decide)), fun h => Or.inl ⟨by decide, rfl, h⟩⟩
theorem ob_59 : ax_ob none 59 0 = true := Eq.trans rfl rfl
theorem sh_59 : (ax_SH 59).2 = 9 := Eq.trans rfl rfl
theorem rd_59 {mi : Nat → Nat → Int32} {ml : Nat → Nat → Int64} {mr : Nat → Nat → Nat} {x : Int32} : ax_rd (none, mi, ml, mr) 59 x = vp_in x 9 := propext ⟨fun h => h.elim (fun h => h.2.2) (fun h => absurd h.1 (by decide)), fun h => Or.inl ⟨by decide, rfl, h⟩⟩
theorem ob_60 : ax_ob none 60 0 = true := Eq.trans rfl rfl
theorem sh_60 : (ax_SH 60).2 = 9 := Eq.trans rfl rfl
theorem rd_60 {mi : Nat → Nat → Int32} {ml : Nat → Nat → Int64} {mr : Nat → Nat → Nat} {x : Int32} : ax_rd (none, mi, ml, mr) 60 x = vp_in x 9 := propext ⟨fun h => h.elim (fun h => h.2.2) (fun h => absurd h.1 (by decide)), fun h => Or.inl ⟨by decide, rfl, h⟩⟩
theorem ob_61 : ax_ob none 61 0 = true := Eq.trans rfl rfl
theorem sh_61 : (ax_SH 61).2 = 12 := Eq.trans rfl rfl
theorem rd_61 {mi : Nat → Nat → Int32} {ml : Nat → Nat → Int64} {mr : Nat → Nat → Nat} {x : Int32} : ax_rd (none, mi, ml, mr) 61 x = vp_in x 12 := propext ⟨fun h => h.elim (fun h => h.2.2) (fun h => absurd h.1 (by decide)), fun h => Or.inl ⟨by decide, rfl, h⟩⟩
theorem ob_62 : ax_ob none 62 0 = true := Eq.trans rfl rfl
theorem sh_62 : (ax_SH 62).2 = 12 := Eq.trans rfl rfl
theorem rd_62 {mi : Nat → Nat → Int32} {ml : Nat → Nat → Int64} {mr : Nat → Nat → Nat} {x : Int32} : ax_rd (none, mi, ml, mr) 62 x = vp_in x 12 := propext ⟨fun h => h.elim (fun h => h.2.2) (fun h => absurd h.1 (by decide)), fun h => Or.inl ⟨by decide, rfl, h⟩⟩
theorem ob_63 : ax_ob none 63 0 = true := Eq.trans rfl rfl
theorem sh_63 : (ax_SH 63).2 = 12 := Eq.trans rfl rfl
theorem rd_63 {mi : Nat → Nat → Int32} {ml : Nat → Nat → Int64} {mr : Nat → Nat → Nat} {x : Int32} : ax_rd (none, mi, ml, mr) 63 x = vp_in x 12 := propext ⟨fun h => h.elim (fun h => h.2.2) (fun h => absurd h.1 (by decide)), fun h => Or.inl ⟨by decide, rfl, h⟩⟩
theorem ob_64 : ax_ob none 64 0 = true := Eq.trans rfl rfl
theorem sh_64 : (ax_SH 64).2 = 3 := Eq.trans rfl rfl
theorem rd_64 {mi : Nat → Nat → Int32} {ml : Nat → Nat → Int64} {mr : Nat → Nat → Nat} {x : Int32} : ax_rd (none, mi, ml, mr) 64 x = vp_in x 3 := propext ⟨fun h => h.elim (fun h => h.2.2) (fun h => absurd h.1 (by decide)), fun h => Or.inl ⟨by decide, rfl, h⟩⟩
theorem ob_65 : ax_ob none 65 0 = true := Eq.trans rfl rfl
theorem sh_65 : (ax_SH 65).2 = 3 := Eq.trans rfl rfl
theorem rd_65 {mi : Nat → Nat → Int32} {ml : Nat → Nat → Int64} {mr : Nat → Nat → Nat} {x : Int32} : ax_rd (none, mi, ml, mr) 65 x = vp_in x 3 := propext ⟨fun h => h.elim (fun h => h.2.2) (fun h => absurd h.1 (by decide)), fun h => Or.inl ⟨by decide, rfl, h⟩⟩
theorem ob_66 : ax_ob none 66 4 = true := Eq.trans rfl rfl
theorem ob_67 : ax_ob none 67 0 = true := Eq.trans rfl rfl
theorem sh_67 : (ax_SH 67).2 = 64 := Eq.trans rfl rfl
theorem rd_67 {mi : Nat → Nat → Int32} {ml : Nat → Nat → Int64} {mr : Nat → Nat → Nat} {x : Int32} : ax_rd (none, mi, ml, mr) 67 x = vp_in x 64 := propext ⟨fun h => h.elim (fun h => h.2.2) (fun h => absurd h.1 (by decide)), fun h => Or.inl ⟨by decide, rfl, h⟩⟩
theorem ob_68 : ax_ob none 68 0 = true := Eq.trans rfl rfl
theorem sh_68 : (ax_SH 68).2 = 3 := Eq.trans rfl rfl
theorem rd_68 {mi : Nat → Nat → Int32} {ml : Nat → Nat → Int64} {mr : Nat → Nat → Nat} {x : Int32} : ax_rd (none, mi, ml, mr) 68 x = vp_in x 3 := propext ⟨fun h => h.elim (fun h => h.2.2) (fun h => absurd h.1 (by decide)), fun h => Or.inl ⟨by decide, rfl, h⟩⟩
theorem ob_69 : ax_ob none 69 0 = true := Eq.trans rfl rfl
theorem sh_69 : (ax_SH 69).2 = 3 := Eq.trans rfl rfl
theorem rd_69 {mi : Nat → Nat → Int32} {ml : Nat → Nat → Int64} {mr : Nat → Nat → Nat} {x : Int32} : ax_rd (none, mi, ml, mr) 69 x = vp_in x 3 := propext ⟨fun h => h.elim (fun h => h.2.2) (fun h => absurd h.1 (by decide)), fun h => Or.inl ⟨by decide, rfl, h⟩⟩
theorem ob_70 : ax_ob none 70 1 = true := Eq.trans rfl rfl
theorem sh_70 : (ax_SH 70).2 = 3 := Eq.trans rfl rfl
theorem ob_71 : ax_ob none 71 2 = true := Eq.trans rfl rfl
theorem sh_71 : (ax_SH 71).2 = 7 := Eq.trans rfl rfl
theorem ob_72 : ax_ob none 72 2 = true := Eq.trans rfl rfl
theorem sh_72 : (ax_SH 72).2 = 64 := Eq.trans rfl rfl
theorem ob_73 : ax_ob none 73 5 = true := Eq.trans rfl rfl
theorem ob_74 : ax_ob none 74 0 = true := Eq.trans rfl rfl
theorem sh_74 : (ax_SH 74).2 = 9 := Eq.trans rfl rfl
theorem rd_74 {mi : Nat → Nat → Int32} {ml : Nat → Nat → Int64} {mr : Nat → Nat → Nat} {x : Int32} : ax_rd (none, mi, ml, mr) 74 x = vp_in x 9 := propext ⟨fun h => h.elim (fun h => h.2.2) (fun h => absurd h.1 (by decide)), fun h => Or.inl ⟨by decide, rfl, h⟩⟩
theorem ob_75 : ax_ob none 75 5 = true := Eq.trans rfl rfl
theorem ob_76 : ax_ob none 76 0 = true := Eq.trans rfl rfl
theorem sh_76 : (ax_SH 76).2 = 9 := Eq.trans rfl rfl
theorem rd_76 {mi : Nat → Nat → Int32} {ml : Nat → Nat → Int64} {mr : Nat → Nat → Nat} {x : Int32} : ax_rd (none, mi, ml, mr) 76 x = vp_in x 9 := propext ⟨fun h => h.elim (fun h => h.2.2) (fun h => absurd h.1 (by decide)), fun h => Or.inl ⟨by decide, rfl, h⟩⟩
theorem ob_77 : ax_ob none 77 5 = true := Eq.trans rfl rfl
theorem ob_78 : ax_ob none 78 0 = true := Eq.trans rfl rfl
theorem sh_78 : (ax_SH 78).2 = 9 := Eq.trans rfl rfl
theorem rd_78 {mi : Nat → Nat → Int32} {ml : Nat → Nat → Int64} {mr : Nat → Nat → Nat} {x : Int32} : ax_rd (none, mi, ml, mr) 78 x = vp_in x 9 := propext ⟨fun h => h.elim (fun h => h.2.2) (fun h => absurd h.1 (by decide)), fun h => Or.inl ⟨by decide, rfl, h⟩⟩
theorem ob_79 : ax_ob none 79 1 = true := Eq.trans rfl rfl
theorem sh_79 : (ax_SH 79).2 = 7 := Eq.trans rfl rfl
theorem ob_80 : ax_ob none 80 1 = true := Eq.trans rfl rfl
theorem sh_80 : (ax_SH 80).2 = 3 := Eq.trans rfl rfl
theorem ob_81 : ax_ob none 81 13 = true := Eq.trans rfl rfl
theorem ob_82 : ax_ob none 82 0 = true := Eq.trans rfl rfl
theorem sh_82 : (ax_SH 82).2 = 7 := Eq.trans rfl rfl
theorem rd_82 {mi : Nat → Nat → Int32} {ml : Nat → Nat → Int64} {mr : Nat → Nat → Nat} {x : Int32} : ax_rd (none, mi, ml, mr) 82 x = vp_in x 7 := propext ⟨fun h => h.elim (fun h => h.2.2) (fun h => absurd h.1 (by decide)), fun h => Or.inl ⟨by decide, rfl, h⟩⟩
theorem ob_83 : ax_ob none 83 0 = true := Eq.trans rfl rfl
theorem sh_83 : (ax_SH 83).2 = 7 := Eq.trans rfl rfl
theorem rd_83 {mi : Nat → Nat → Int32} {ml : Nat → Nat → Int64} {mr : Nat → Nat → Nat} {x : Int32} : ax_rd (none, mi, ml, mr) 83 x = vp_in x 7 := propext ⟨fun h => h.elim (fun h => h.2.2) (fun h => absurd h.1 (by decide)), fun h => Or.inl ⟨by decide, rfl, h⟩⟩
theorem ob_84 : ax_ob none 84 0 = true := Eq.trans rfl rfl
theorem sh_84 : (ax_SH 84).2 = 9 := Eq.trans rfl rfl
theorem rd_84 {mi : Nat → Nat → Int32} {ml : Nat → Nat → Int64} {mr : Nat → Nat → Nat} {x : Int32} : ax_rd (none, mi, ml, mr) 84 x = vp_in x 9 := propext ⟨fun h => h.elim (fun h => h.2.2) (fun h => absurd h.1 (by decide)), fun h => Or.inl ⟨by decide, rfl, h⟩⟩
theorem ob_85 : ax_ob none 85 0 = true := Eq.trans rfl rfl
theorem sh_85 : (ax_SH 85).2 = 9 := Eq.trans rfl rfl
theorem rd_85 {mi : Nat → Nat → Int32} {ml : Nat → Nat → Int64} {mr : Nat → Nat → Nat} {x : Int32} : ax_rd (none, mi, ml, mr) 85 x = vp_in x 9 := propext ⟨fun h => h.elim (fun h => h.2.2) (fun h => absurd h.1 (by decide)), fun h => Or.inl ⟨by decide, rfl, h⟩⟩
theorem ob_86 : ax_ob none 86 0 = true := Eq.trans rfl rfl
theorem sh_86 : (ax_SH 86).2 = 9 := Eq.trans rfl rfl
theorem rd_86 {mi : Nat → Nat → Int32} {ml : Nat → Nat → Int64} {mr : Nat → Nat → Nat} {x : Int32} : ax_rd (none, mi, ml, mr) 86 x = vp_in x 9 := propext ⟨fun h => h.elim (fun h => h.2.2) (fun h => absurd h.1 (by decide)), fun h => Or.inl ⟨by decide, rfl, h⟩⟩
theorem ob_87 : ax_ob none 87 0 = true := Eq.trans rfl rfl
theorem sh_87 : (ax_SH 87).2 = 12 := Eq.trans rfl rfl
theorem rd_87 {mi : Nat → Nat → Int32} {ml : Nat → Nat → Int64} {mr : Nat → Nat → Nat} {x : Int32} : ax_rd (none, mi, ml, mr) 87 x = vp_in x 12 := propext ⟨fun h => h.elim (fun h => h.2.2) (fun h => absurd h.1 (by decide)), fun h => Or.inl ⟨by decide, rfl, h⟩⟩
theorem ob_88 : ax_ob none 88 0 = true := Eq.trans rfl rfl
theorem sh_88 : (ax_SH 88).2 = 12 := Eq.trans rfl rfl
theorem rd_88 {mi : Nat → Nat → Int32} {ml : Nat → Nat → Int64} {mr : Nat → Nat → Nat} {x : Int32} : ax_rd (none, mi, ml, mr) 88 x = vp_in x 12 := propext ⟨fun h => h.elim (fun h => h.2.2) (fun h => absurd h.1 (by decide)), fun h => Or.inl ⟨by decide, rfl, h⟩⟩
theorem ob_89 : ax_ob none 89 0 = true := Eq.trans rfl rfl
theorem sh_89 : (ax_SH 89).2 = 12 := Eq.trans rfl rfl
theorem rd_89 {mi : Nat → Nat → Int32} {ml : Nat → Nat → Int64} {mr : Nat → Nat → Nat} {x : Int32} : ax_rd (none, mi, ml, mr) 89 x = vp_in x 12 := propext ⟨fun h => h.elim (fun h => h.2.2) (fun h => absurd h.1 (by decide)), fun h => Or.inl ⟨by decide, rfl, h⟩⟩
theorem ob_90 : ax_ob none 90 0 = true := Eq.trans rfl rfl
theorem sh_90 : (ax_SH 90).2 = 3 := Eq.trans rfl rfl
theorem rd_90 {mi : Nat → Nat → Int32} {ml : Nat → Nat → Int64} {mr : Nat → Nat → Nat} {x : Int32} : ax_rd (none, mi, ml, mr) 90 x = vp_in x 3 := propext ⟨fun h => h.elim (fun h => h.2.2) (fun h => absurd h.1 (by decide)), fun h => Or.inl ⟨by decide, rfl, h⟩⟩
theorem ob_91 : ax_ob none 91 0 = true := Eq.trans rfl rfl
theorem sh_91 : (ax_SH 91).2 = 3 := Eq.trans rfl rfl
theorem rd_91 {mi : Nat → Nat → Int32} {ml : Nat → Nat → Int64} {mr : Nat → Nat → Nat} {x : Int32} : ax_rd (none, mi, ml, mr) 91 x = vp_in x 3 := propext ⟨fun h => h.elim (fun h => h.2.2) (fun h => absurd h.1 (by decide)), fun h => Or.inl ⟨by decide, rfl, h⟩⟩
theorem ob_92 : ax_ob none 92 8 = true := Eq.trans rfl rfl
theorem ob_93 : ax_ob none 93 0 = true := Eq.trans rfl rfl
theorem sh_93 : (ax_SH 93).2 = 20 := Eq.trans rfl rfl
theorem rd_93 {mi : Nat → Nat → Int32} {ml : Nat → Nat → Int64} {mr : Nat → Nat → Nat} {x : Int32} : ax_rd (none, mi, ml, mr) 93 x = vp_in x 20 := propext ⟨fun h => h.elim (fun h => h.2.2) (fun h => absurd h.1 (by decide)), fun h => Or.inl ⟨by decide, rfl, h⟩⟩
theorem ob_94 : ax_ob none 94 0 = true := Eq.trans rfl rfl
theorem sh_94 : (ax_SH 94).2 = 20 := Eq.trans rfl rfl
theorem rd_94 {mi : Nat → Nat → Int32} {ml : Nat → Nat → Int64} {mr : Nat → Nat → Nat} {x : Int32} : ax_rd (none, mi, ml, mr) 94 x = vp_in x 20 := propext ⟨fun h => h.elim (fun h => h.2.2) (fun h => absurd h.1 (by decide)), fun h => Or.inl ⟨by decide, rfl, h⟩⟩
theorem ob_95 : ax_ob none 95 0 = true := Eq.trans rfl rfl
theorem sh_95 : (ax_SH 95).2 = 20 := Eq.trans rfl rfl
theorem rd_95 {mi : Nat → Nat → Int32} {ml : Nat → Nat → Int64} {mr : Nat → Nat → Nat} {x : Int32} : ax_rd (none, mi, ml, mr) 95 x = vp_in x 20 := propext ⟨fun h => h.elim (fun h => h.2.2) (fun h => absurd h.1 (by decide)), fun h => Or.inl ⟨by decide, rfl, h⟩⟩
theorem ob_96 : ax_ob none 96 7 = true := Eq.trans rfl rfl
theorem ob_97 : ax_ob none 97 0 = true := Eq.trans rfl rfl
theorem sh_97 : (ax_SH 97).2 = 24 := Eq.trans rfl rfl
theorem rd_97 {mi : Nat → Nat → Int32} {ml : Nat → Nat → Int64} {mr : Nat → Nat → Nat} {x : Int32} : ax_rd (none, mi, ml, mr) 97 x = vp_in x 24 := propext ⟨fun h => h.elim (fun h => h.2.2) (fun h => absurd h.1 (by decide)), fun h => Or.inl ⟨by decide, rfl, h⟩⟩
theorem ob_98 : ax_ob none 98 0 = true := Eq.trans rfl rfl
theorem sh_98 : (ax_SH 98).2 = 24 := Eq.trans rfl rfl
theorem rd_98 {mi : Nat → Nat → Int32} {ml : Nat → Nat → Int64} {mr : Nat → Nat → Nat} {x : Int32} : ax_rd (none, mi, ml, mr) 98 x = vp_in x 24 := propext ⟨fun h => h.elim (fun h => h.2.2) (fun h => absurd h.1 (by decide)), fun h => Or.inl ⟨by decide, rfl, h⟩⟩
theorem ob_99 : ax_ob none 99 0 = true := Eq.trans rfl rfl
theorem sh_99 : (ax_SH 99).2 = 24 := Eq.trans rfl rfl
theorem rd_99 {mi : Nat → Nat → Int32} {ml : Nat → Nat → Int64} {mr : Nat → Nat → Nat} {x : Int32} : ax_rd (none, mi, ml, mr) 99 x = vp_in x 24 := propext ⟨fun h => h.elim (fun h => h.2.2) (fun h => absurd h.1 (by decide)), fun h => Or.inl ⟨by decide, rfl, h⟩⟩
theorem ob_100 : ax_ob none 100 1 = true := Eq.trans rfl rfl
theorem sh_100 : (ax_SH 100).2 = 24 := Eq.trans rfl rfl
theorem ob_101 : ax_ob none 101 0 = true := Eq.trans rfl rfl
theorem sh_101 : (ax_SH 101).2 = 24 := Eq.trans rfl rfl
theorem rd_101 {mi : Nat → Nat → Int32} {ml : Nat → Nat → Int64} {mr : Nat → Nat → Nat} {x : Int32} : ax_rd (none, mi, ml, mr) 101 x = vp_in x 24 := propext ⟨fun h => h.elim (fun h => h.2.2) (fun h => absurd h.1 (by decide)), fun h => Or.inl ⟨by decide, rfl, h⟩⟩
theorem ob_102 : ax_ob none 102 1 = true := Eq.trans rfl rfl
theorem sh_102 : (ax_SH 102).2 = 24 := Eq.trans rfl rfl
theorem ob_103 : ax_ob none 103 10 = true := Eq.trans rfl rfl
theorem ob_104 : ax_ob none 104 13 = true := Eq.trans rfl rfl
theorem ob_105 : ax_ob none 105 0 = true := Eq.trans rfl rfl
theorem sh_105 : (ax_SH 105).2 = 7 := Eq.trans rfl rfl
theorem rd_105 {mi : Nat → Nat → Int32} {ml : Nat → Nat → Int64} {mr : Nat → Nat → Nat} {x : Int32} : ax_rd (none, mi, ml, mr) 105 x = vp_in x 7 := propext ⟨fun h => h.elim (fun h => h.2.2) (fun h => absurd h.1 (by decide)), fun h => Or.inl ⟨by decide, rfl, h⟩⟩
theorem ob_106 : ax_ob none 106 0 = true := Eq.trans rfl rfl
theorem sh_106 : (ax_SH 106).2 = 7 := Eq.trans rfl rfl
theorem rd_106 {mi : Nat → Nat → Int32} {ml : Nat → Nat → Int64} {mr : Nat → Nat → Nat} {x : Int32} : ax_rd (none, mi, ml, mr) 106 x = vp_in x 7 := propext ⟨fun h => h.elim (fun h => h.2.2) (fun h => absurd h.1 (by decide)), fun h => Or.inl ⟨by decide, rfl, h⟩⟩
theorem ob_107 : ax_ob none 107 0 = true := Eq.trans rfl rfl
theorem sh_107 : (ax_SH 107).2 = 9 := Eq.trans rfl rfl
theorem rd_107 {mi : Nat → Nat → Int32} {ml : Nat → Nat → Int64} {mr : Nat → Nat → Nat} {x : Int32} : ax_rd (none, mi, ml, mr) 107 x = vp_in x 9 := propext ⟨fun h => h.elim (fun h => h.2.2) (fun h => absurd h.1 (by decide)), fun h => Or.inl ⟨by decide, rfl, h⟩⟩
theorem ob_108 : ax_ob none 108 0 = true := Eq.trans rfl rfl
theorem sh_108 : (ax_SH 108).2 = 9 := Eq.trans rfl rfl
theorem rd_108 {mi : Nat → Nat → Int32} {ml : Nat → Nat → Int64} {mr : Nat → Nat → Nat} {x : Int32} : ax_rd (none, mi, ml, mr) 108 x = vp_in x 9 := propext ⟨fun h => h.elim (fun h => h.2.2) (fun h => absurd h.1 (by decide)), fun h => Or.inl ⟨by decide, rfl, h⟩⟩
theorem ob_109 : ax_ob none 109 0 = true := Eq.trans rfl rfl
theorem sh_109 : (ax_SH 109).2 = 9 := Eq.trans rfl rfl
theorem rd_109 {mi : Nat → Nat → Int32} {ml : Nat → Nat → Int64} {mr : Nat → Nat → Nat} {x : Int32} : ax_rd (none, mi, ml, mr) 109 x = vp_in x 9 := propext ⟨fun h => h.elim (fun h => h.2.2) (fun h => absurd h.1 (by decide)), fun h => Or.inl ⟨by decide, rfl, h⟩⟩
theorem ob_110 : ax_ob none 110 0 = true := Eq.trans rfl rfl
theorem sh_110 : (ax_SH 110).2 = 12 := Eq.trans rfl rfl
theorem rd_110 {mi : Nat → Nat → Int32} {ml : Nat → Nat → Int64} {mr : Nat → Nat → Nat} {x : Int32} : ax_rd (none, mi, ml, mr) 110 x = vp_in x 12 := propext ⟨fun h => h.elim (fun h => h.2.2) (fun h => absurd h.1 (by decide)), fun h => Or.inl ⟨by decide, rfl, h⟩⟩
theorem ob_111 : ax_ob none 111 0 = true := Eq.trans rfl rfl
theorem sh_111 : (ax_SH 111).2 = 12 := Eq.trans rfl rfl
theorem rd_111 {mi : Nat → Nat → Int32} {ml : Nat → Nat → Int64} {mr : Nat → Nat → Nat} {x : Int32} : ax_rd (none, mi, ml, mr) 111 x = vp_in x 12 := propext ⟨fun h => h.elim (fun h => h.2.2) (fun h => absurd h.1 (by decide)), fun h => Or.inl ⟨by decide, rfl, h⟩⟩
theorem ob_112 : ax_ob none 112 0 = true := Eq.trans rfl rfl
theorem sh_112 : (ax_SH 112).2 = 12 := Eq.trans rfl rfl
theorem rd_112 {mi : Nat → Nat → Int32} {ml : Nat → Nat → Int64} {mr : Nat → Nat → Nat} {x : Int32} : ax_rd (none, mi, ml, mr) 112 x = vp_in x 12 := propext ⟨fun h => h.elim (fun h => h.2.2) (fun h => absurd h.1 (by decide)), fun h => Or.inl ⟨by decide, rfl, h⟩⟩
theorem ob_113 : ax_ob none 113 0 = true := Eq.trans rfl rfl
theorem sh_113 : (ax_SH 113).2 = 3 := Eq.trans rfl rfl
theorem rd_113 {mi : Nat → Nat → Int32} {ml : Nat → Nat → Int64} {mr : Nat → Nat → Nat} {x : Int32} : ax_rd (none, mi, ml, mr) 113 x = vp_in x 3 := propext ⟨fun h => h.elim (fun h => h.2.2) (fun h => absurd h.1 (by decide)), fun h => Or.inl ⟨by decide, rfl, h⟩⟩
theorem ob_114 : ax_ob none 114 0 = true := Eq.trans rfl rfl
theorem sh_114 : (ax_SH 114).2 = 3 := Eq.trans rfl rfl
theorem rd_114 {mi : Nat → Nat → Int32} {ml : Nat → Nat → Int64} {mr : Nat → Nat → Nat} {x : Int32} : ax_rd (none, mi, ml, mr) 114 x = vp_in x 3 := propext ⟨fun h => h.elim (fun h => h.2.2) (fun h => absurd h.1 (by decide)), fun h => Or.inl ⟨by decide, rfl, h⟩⟩
theorem ob_115 : ax_ob none 115 0 = true := Eq.trans rfl rfl
theorem sh_115 : (ax_SH 115).2 = 8 := Eq.trans rfl rfl
theorem rd_115 {mi : Nat → Nat → Int32} {ml : Nat → Nat → Int64} {mr : Nat → Nat → Nat} {x : Int32} : ax_rd (none, mi, ml, mr) 115 x = vp_in x 8 := propext ⟨fun h => h.elim (fun h => h.2.2) (fun h => absurd h.1 (by decide)), fun h => Or.inl ⟨by decide, rfl, h⟩⟩
theorem ob_116 : ax_ob none 116 0 = true := Eq.trans rfl rfl
theorem sh_116 : (ax_SH 116).2 = 9 := Eq.trans rfl rfl
theorem rd_116 {mi : Nat → Nat → Int32} {ml : Nat → Nat → Int64} {mr : Nat → Nat → Nat} {x : Int32} : ax_rd (none, mi, ml, mr) 116 x = vp_in x 9 := propext ⟨fun h => h.elim (fun h => h.2.2) (fun h => absurd h.1 (by decide)), fun h => Or.inl ⟨by decide, rfl, h⟩⟩
theorem ob_117 : ax_ob none 117 0 = true := Eq.trans rfl rfl
theorem sh_117 : (ax_SH 117).2 = 100 := Eq.trans rfl rfl
theorem rd_117 {mi : Nat → Nat → Int32} {ml : Nat → Nat → Int64} {mr : Nat → Nat → Nat} {x : Int32} : ax_rd (none, mi, ml, mr) 117 x = vp_in x 100 := propext ⟨fun h => h.elim (fun h => h.2.2) (fun h => absurd h.1 (by decide)), fun h => Or.inl ⟨by decide, rfl, h⟩⟩
theorem ob_118 : ax_ob none 118 0 = true := Eq.trans rfl rfl
theorem sh_118 : (ax_SH 118).2 = 100 := Eq.trans rfl rfl
theorem rd_118 {mi : Nat → Nat → Int32} {ml : Nat → Nat → Int64} {mr : Nat → Nat → Nat} {x : Int32} : ax_rd (none, mi, ml, mr) 118 x = vp_in x 100 := propext ⟨fun h => h.elim (fun h => h.2.2) (fun h => absurd h.1 (by decide)), fun h => Or.inl ⟨by decide, rfl, h⟩⟩
theorem ob_119 : ax_ob none 119 0 = true := Eq.trans rfl rfl
theorem sh_119 : (ax_SH 119).2 = 7 := Eq.trans rfl rfl
theorem rd_119 {mi : Nat → Nat → Int32} {ml : Nat → Nat → Int64} {mr : Nat → Nat → Nat} {x : Int32} : ax_rd (none, mi, ml, mr) 119 x = vp_in x 7 := propext ⟨fun h => h.elim (fun h => h.2.2) (fun h => absurd h.1 (by decide)), fun h => Or.inl ⟨by decide, rfl, h⟩⟩
theorem ob_120 : ax_ob none 120 0 = true := Eq.trans rfl rfl
theorem sh_120 : (ax_SH 120).2 = 7 := Eq.trans rfl rfl
theorem rd_120 {mi : Nat → Nat → Int32} {ml : Nat → Nat → Int64} {mr : Nat → Nat → Nat} {x : Int32} : ax_rd (none, mi, ml, mr) 120 x = vp_in x 7 := propext ⟨fun h => h.elim (fun h => h.2.2) (fun h => absurd h.1 (by decide)), fun h => Or.inl ⟨by decide, rfl, h⟩⟩
theorem ob_121 : ax_ob none 121 15 = true := Eq.trans rfl rfl
theorem ob_122 : ax_ob none 122 0 = true := Eq.trans rfl rfl
theorem sh_122 : (ax_SH 122).2 = 700 := Eq.trans rfl rfl
theorem rd_122 {mi : Nat → Nat → Int32} {ml : Nat → Nat → Int64} {mr : Nat → Nat → Nat} {x : Int32} : ax_rd (none, mi, ml, mr) 122 x = vp_in x 700 := propext ⟨fun h => h.elim (fun h => h.2.2) (fun h => absurd h.1 (by decide)), fun h => Or.inl ⟨by decide, rfl, h⟩⟩
theorem ob_123 : ax_ob none 123 0 = true := Eq.trans rfl rfl
theorem sh_123 : (ax_SH 123).2 = 16 := Eq.trans rfl rfl
theorem rd_123 {mi : Nat → Nat → Int32} {ml : Nat → Nat → Int64} {mr : Nat → Nat → Nat} {x : Int32} : ax_rd (none, mi, ml, mr) 123 x = vp_in x 16 := propext ⟨fun h => h.elim (fun h => h.2.2) (fun h => absurd h.1 (by decide)), fun h => Or.inl ⟨by decide, rfl, h⟩⟩
theorem ob_124 : ax_ob none 124 0 = true := Eq.trans rfl rfl
theorem sh_124 : (ax_SH 124).2 = 14 := Eq.trans rfl rfl
theorem rd_124 {mi : Nat → Nat → Int32} {ml : Nat → Nat → Int64} {mr : Nat → Nat → Nat} {x : Int32} : ax_rd (none, mi, ml, mr) 124 x = vp_in x 14 := propext ⟨fun h => h.elim (fun h => h.2.2) (fun h => absurd h.1 (by decide)), fun h => Or.inl ⟨by decide, rfl, h⟩⟩
theorem ob_125 : ax_ob none 125 0 = true := Eq.trans rfl rfl
theorem sh_125 : (ax_SH 125).2 = 14 := Eq.trans rfl rfl
theorem rd_125 {mi : Nat → Nat → Int32} {ml : Nat → Nat → Int64} {mr : Nat → Nat → Nat} {x : Int32} : ax_rd (none, mi, ml, mr) 125 x = vp_in x 14 := propext ⟨fun h => h.elim (fun h => h.2.2) (fun h => absurd h.1 (by decide)), fun h => Or.inl ⟨by decide, rfl, h⟩⟩
theorem ob_126 : ax_ob none 126 0 = true := Eq.trans rfl rfl
theorem sh_126 : (ax_SH 126).2 = 18 := Eq.trans rfl rfl
theorem rd_126 {mi : Nat → Nat → Int32} {ml : Nat → Nat → Int64} {mr : Nat → Nat → Nat} {x : Int32} : ax_rd (none, mi, ml, mr) 126 x = vp_in x 18 := propext ⟨fun h => h.elim (fun h => h.2.2) (fun h => absurd h.1 (by decide)), fun h => Or.inl ⟨by decide, rfl, h⟩⟩
theorem ob_127 : ax_ob none 127 0 = true := Eq.trans rfl rfl
theorem sh_127 : (ax_SH 127).2 = 18 := Eq.trans rfl rfl
theorem rd_127 {mi : Nat → Nat → Int32} {ml : Nat → Nat → Int64} {mr : Nat → Nat → Nat} {x : Int32} : ax_rd (none, mi, ml, mr) 127 x = vp_in x 18 := propext ⟨fun h => h.elim (fun h => h.2.2) (fun h => absurd h.1 (by decide)), fun h => Or.inl ⟨by decide, rfl, h⟩⟩
theorem ob_128 : ax_ob none 128 0 = true := Eq.trans rfl rfl
theorem sh_128 : (ax_SH 128).2 = 18 := Eq.trans rfl rfl
theorem rd_128 {mi : Nat → Nat → Int32} {ml : Nat → Nat → Int64} {mr : Nat → Nat → Nat} {x : Int32} : ax_rd (none, mi, ml, mr) 128 x = vp_in x 18 := propext ⟨fun h => h.elim (fun h => h.2.2) (fun h => absurd h.1 (by decide)), fun h => Or.inl ⟨by decide, rfl, h⟩⟩
theorem ob_129 : ax_ob none 129 0 = true := Eq.trans rfl rfl
theorem sh_129 : (ax_SH 129).2 = 18 := Eq.trans rfl rfl
theorem rd_129 {mi : Nat → Nat → Int32} {ml : Nat → Nat → Int64} {mr : Nat → Nat → Nat} {x : Int32} : ax_rd (none, mi, ml, mr) 129 x = vp_in x 18 := propext ⟨fun h => h.elim (fun h => h.2.2) (fun h => absurd h.1 (by decide)), fun h => Or.inl ⟨by decide, rfl, h⟩⟩
theorem ob_130 : ax_ob none 130 0 = true := Eq.trans rfl rfl
theorem sh_130 : (ax_SH 130).2 = 16 := Eq.trans rfl rfl
theorem rd_130 {mi : Nat → Nat → Int32} {ml : Nat → Nat → Int64} {mr : Nat → Nat → Nat} {x : Int32} : ax_rd (none, mi, ml, mr) 130 x = vp_in x 16 := propext ⟨fun h => h.elim (fun h => h.2.2) (fun h => absurd h.1 (by decide)), fun h => Or.inl ⟨by decide, rfl, h⟩⟩
theorem ob_131 : ax_ob none 131 0 = true := Eq.trans rfl rfl
theorem sh_131 : (ax_SH 131).2 = 16 := Eq.trans rfl rfl
theorem rd_131 {mi : Nat → Nat → Int32} {ml : Nat → Nat → Int64} {mr : Nat → Nat → Nat} {x : Int32} : ax_rd (none, mi, ml, mr) 131 x = vp_in x 16 := propext ⟨fun h => h.elim (fun h => h.2.2) (fun h => absurd h.1 (by decide)), fun h => Or.inl ⟨by decide, rfl, h⟩⟩
theorem ob_132 : ax_ob none 132 0 = true := Eq.trans rfl rfl
theorem sh_132 : (ax_SH 132).2 = 16 := Eq.trans rfl rfl
theorem rd_132 {mi : Nat → Nat → Int32} {ml : Nat → Nat → Int64} {mr : Nat → Nat → Nat} {x : Int32} : ax_rd (none, mi, ml, mr) 132 x = vp_in x 16 := propext ⟨fun h => h.elim (fun h => h.2.2) (fun h => absurd h.1 (by decide)), fun h => Or.inl ⟨by decide, rfl, h⟩⟩
theorem ob_133 : ax_ob none 133 0 = true := Eq.trans rfl rfl
theorem sh_133 : (ax_SH 133).2 = 6 := Eq.trans rfl rfl
theorem rd_133 {mi : Nat → Nat → Int32} {ml : Nat → Nat → Int64} {mr : Nat → Nat → Nat} {x : Int32} : ax_rd (none, mi, ml, mr) 133 x = vp_in x 6 := propext ⟨fun h => h.elim (fun h => h.2.2) (fun h => absurd h.1 (by decide)), fun h => Or.inl ⟨by decide, rfl, h⟩⟩
theorem ob_134 : ax_ob none 134 0 = true := Eq.trans rfl rfl
theorem sh_134 : (ax_SH 134).2 = 6 := Eq.trans rfl rfl
theorem rd_134 {mi : Nat → Nat → Int32} {ml : Nat → Nat → Int64} {mr : Nat → Nat → Nat} {x : Int32} : ax_rd (none, mi, ml, mr) 134 x = vp_in x 6 := propext ⟨fun h => h.elim (fun h => h.2.2) (fun h => absurd h.1 (by decide)), fun h => Or.inl ⟨by decide, rfl, h⟩⟩
theorem ob_135 : ax_ob none 135 0 = true := Eq.trans rfl rfl
theorem sh_135 : (ax_SH 135).2 = 6 := Eq.trans rfl rfl
theorem rd_135 {mi : Nat → Nat → Int32} {ml : Nat → Nat → Int64} {mr : Nat → Nat → Nat} {x : Int32} : ax_rd (none, mi, ml, mr) 135 x = vp_in x 6 := propext ⟨fun h => h.elim (fun h => h.2.2) (fun h => absurd h.1 (by decide)), fun h => Or.inl ⟨by decide, rfl, h⟩⟩
theorem ob_136 : ax_ob none 136 0 = true := Eq.trans rfl rfl
theorem sh_136 : (ax_SH 136).2 = 6 := Eq.trans rfl rfl
theorem rd_136 {mi : Nat → Nat → Int32} {ml : Nat → Nat → Int64} {mr : Nat → Nat → Nat} {x : Int32} : ax_rd (none, mi, ml, mr) 136 x = vp_in x 6 := propext ⟨fun h => h.elim (fun h => h.2.2) (fun h => absurd h.1 (by decide)), fun h => Or.inl ⟨by decide, rfl, h⟩⟩
theorem ob_137 : ax_ob none 137 0 = true := Eq.trans rfl rfl
theorem sh_137 : (ax_SH 137).2 = 6 := Eq.trans rfl rfl
theorem rd_137 {mi : Nat → Nat → Int32} {ml : Nat → Nat → Int64} {mr : Nat → Nat → Nat} {x : Int32} : ax_rd (none, mi, ml, mr) 137 x = vp_in x 6 := propext ⟨fun h => h.elim (fun h => h.2.2) (fun h => absurd h.1 (by decide)), fun h => Or.inl ⟨by decide, rfl, h⟩⟩
theorem ob_138 : ax_ob none 138 0 = true := Eq.trans rfl rfl
theorem sh_138 : (ax_SH 138).2 = 128 := Eq.trans rfl rfl
theorem rd_138 {mi : Nat → Nat → Int32} {ml : Nat → Nat → Int64} {mr : Nat → Nat → Nat} {x : Int32} : ax_rd (none, mi, ml, mr) 138 x = vp_in x 128 := propext ⟨fun h => h.elim (fun h => h.2.2) (fun h => absurd h.1 (by decide)), fun h => Or.inl ⟨by decide, rfl, h⟩⟩
theorem ob_139 : ax_ob none 139 0 = true := Eq.trans rfl rfl
theorem sh_139 : (ax_SH 139).2 = 128 := Eq.trans rfl rfl
theorem rd_139 {mi : Nat → Nat → Int32} {ml : Nat → Nat → Int64} {mr : Nat → Nat → Nat} {x : Int32} : ax_rd (none, mi, ml, mr) 139 x = vp_in x 128 := propext ⟨fun h => h.elim (fun h => h.2.2) (fun h => absurd h.1 (by decide)), fun h => Or.inl ⟨by decide, rfl, h⟩⟩
theorem ob_140 : ax_ob none 140 2 = true := Eq.trans rfl rfl
theorem sh_140 : (ax_SH 140).2 = 7 := Eq.trans rfl rfl
theorem ob_141 : ax_ob none 141 2 = true := Eq.trans rfl rfl
theorem sh_141 : (ax_SH 141).2 = 64 := Eq.trans rfl rfl
theorem ob_142 : ax_ob none 142 0 = true := Eq.trans rfl rfl
theorem sh_142 : (ax_SH 142).2 = 23 := Eq.trans rfl rfl
theorem rd_142 {mi : Nat → Nat → Int32} {ml : Nat → Nat → Int64} {mr : Nat → Nat → Nat} {x : Int32} : ax_rd (none, mi, ml, mr) 142 x = vp_in x 23 := propext ⟨fun h => h.elim (fun h => h.2.2) (fun h => absurd h.1 (by decide)), fun h => Or.inl ⟨by decide, rfl, h⟩⟩
theorem ob_143 : ax_ob none 143 0 = true := Eq.trans rfl rfl
theorem sh_143 : (ax_SH 143).2 = 23 := Eq.trans rfl rfl
theorem rd_143 {mi : Nat → Nat → Int32} {ml : Nat → Nat → Int64} {mr : Nat → Nat → Nat} {x : Int32} : ax_rd (none, mi, ml, mr) 143 x = vp_in x 23 := propext ⟨fun h => h.elim (fun h => h.2.2) (fun h => absurd h.1 (by decide)), fun h => Or.inl ⟨by decide, rfl, h⟩⟩
theorem ob_144 : ax_ob none 144 0 = true := Eq.trans rfl rfl
theorem sh_144 : (ax_SH 144).2 = 23 := Eq.trans rfl rfl
theorem rd_144 {mi : Nat → Nat → Int32} {ml : Nat → Nat → Int64} {mr : Nat → Nat → Nat} {x : Int32} : ax_rd (none, mi, ml, mr) 144 x = vp_in x 23 := propext ⟨fun h => h.elim (fun h => h.2.2) (fun h => absurd h.1 (by decide)), fun h => Or.inl ⟨by decide, rfl, h⟩⟩
theorem ob_145 : ax_ob none 145 0 = true := Eq.trans rfl rfl
theorem sh_145 : (ax_SH 145).2 = 23 := Eq.trans rfl rfl
theorem rd_145 {mi : Nat → Nat → Int32} {ml : Nat → Nat → Int64} {mr : Nat → Nat → Nat} {x : Int32} : ax_rd (none, mi, ml, mr) 145 x = vp_in x 23 := propext ⟨fun h => h.elim (fun h => h.2.2) (fun h => absurd h.1 (by decide)), fun h => Or.inl ⟨by decide, rfl, h⟩⟩
theorem ob_146 : ax_ob none 146 0 = true := Eq.trans rfl rfl
theorem sh_146 : (ax_SH 146).2 = 207 := Eq.trans rfl rfl
theorem rd_146 {mi : Nat → Nat → Int32} {ml : Nat → Nat → Int64} {mr : Nat → Nat → Nat} {x : Int32} : ax_rd (none, mi, ml, mr) 146 x = vp_in x 207 := propext ⟨fun h => h.elim (fun h => h.2.2) (fun h => absurd h.1 (by decide)), fun h => Or.inl ⟨by decide, rfl, h⟩⟩
theorem ob_147 : ax_ob none 147 0 = true := Eq.trans rfl rfl
theorem sh_147 : (ax_SH 147).2 = 161 := Eq.trans rfl rfl
theorem rd_147 {mi : Nat → Nat → Int32} {ml : Nat → Nat → Int64} {mr : Nat → Nat → Nat} {x : Int32} : ax_rd (none, mi, ml, mr) 147 x = vp_in x 161 := propext ⟨fun h => h.elim (fun h => h.2.2) (fun h => absurd h.1 (by decide)), fun h => Or.inl ⟨by decide, rfl, h⟩⟩
theorem ob_148 : ax_ob none 148 0 = true := Eq.trans rfl rfl
theorem sh_148 : (ax_SH 148).2 = 161 := Eq.trans rfl rfl
theorem rd_148 {mi : Nat → Nat → Int32} {ml : Nat → Nat → Int64} {mr : Nat → Nat → Nat} {x : Int32} : ax_rd (none, mi, ml, mr) 148 x = vp_in x 161 := propext ⟨fun h => h.elim (fun h => h.2.2) (fun h => absurd h.1 (by decide)), fun h => Or.inl ⟨by decide, rfl, h⟩⟩
theorem ob_149 : ax_ob none 149 0 = true := Eq.trans rfl rfl
theorem sh_149 : (ax_SH 149).2 = 276 := Eq.trans rfl rfl
theorem rd_149 {mi : Nat → Nat → Int32} {ml : Nat → Nat → Int64} {mr : Nat → Nat → Nat} {x : Int32} : ax_rd (none, mi, ml, mr) 149 x = vp_in x 276 := propext ⟨fun h => h.elim (fun h => h.2.2) (fun h => absurd h.1 (by decide)), fun h => Or.inl ⟨by decide, rfl, h⟩⟩
theorem ob_150 : ax_ob none 150 0 = true := Eq.trans rfl rfl
theorem sh_150 : (ax_SH 150).2 = 276 := Eq.trans rfl rfl
theorem rd_150 {mi : Nat → Nat → Int32} {ml : Nat → Nat → Int64} {mr : Nat → Nat → Nat} {x : Int32} : ax_rd (none, mi, ml, mr) 150 x = vp_in x 276 := propext ⟨fun h => h.elim (fun h => h.2.2) (fun h => absurd h.1 (by decide)), fun h => Or.inl ⟨by decide, rfl, h⟩⟩
theorem ob_151 : ax_ob none 151 0 = true := Eq.trans rfl rfl
theorem sh_151 : (ax_SH 151).2 = 276 := Eq.trans rfl rfl
theorem rd_151 {mi : Nat → Nat → Int32} {ml : Nat → Nat → Int64} {mr : Nat → Nat → Nat} {x : Int32} : ax_rd (none, mi, ml, mr) 151 x = vp_in x 276 := propext ⟨fun h => h.elim (fun h => h.2.2) (fun h => absurd h.1 (by decide)), fun h => Or.inl ⟨by decide, rfl, h⟩⟩
theorem ob_152 : ax_ob none 152 0 = true := Eq.trans rfl rfl
theorem sh_152 : (ax_SH 152).2 = 69 := Eq.trans rfl rfl
theorem rd_152 {mi : Nat → Nat → Int32} {ml : Nat → Nat → Int64} {mr : Nat → Nat → Nat} {x : Int32} : ax_rd (none, mi, ml, mr) 152 x = vp_in x 69 := propext ⟨fun h => h.elim (fun h => h.2.2) (fun h => absurd h.1 (by decide)), fun h => Or.inl ⟨by decide, rfl, h⟩⟩
theorem ob_153 : ax_ob none 153 0 = true := Eq.trans rfl rfl
theorem sh_153 : (ax_SH 153).2 = 56 := Eq.trans rfl rfl
theorem rd_153 {mi : Nat → Nat → Int32} {ml : Nat → Nat → Int64} {mr : Nat → Nat → Nat} {x : Int32} : ax_rd (none, mi, ml, mr) 153 x = vp_in x 56 := propext ⟨fun h => h.elim (fun h => h.2.2) (fun h => absurd h.1 (by decide)), fun h => Or.inl ⟨by decide, rfl, h⟩⟩
theorem ob_154 : ax_ob none 154 0 = true := Eq.trans rfl rfl
theorem sh_154 : (ax_SH 154).2 = 56 := Eq.trans rfl rfl
theorem rd_154 {mi : Nat → Nat → Int32} {ml : Nat → Nat → Int64} {mr : Nat → Nat → Nat} {x : Int32} : ax_rd (none, mi, ml, mr) 154 x = vp_in x 56 := propext ⟨fun h => h.elim (fun h => h.2.2) (fun h => absurd h.1 (by decide)), fun h => Or.inl ⟨by decide, rfl, h⟩⟩
theorem ob_155 : ax_ob none 155 0 = true := Eq.trans rfl rfl
theorem sh_155 : (ax_SH 155).2 = 100 := Eq.trans rfl rfl
theorem rd_155 {mi : Nat → Nat → Int32} {ml : Nat → Nat → Int64} {mr : Nat → Nat → Nat} {x : Int32} : ax_rd (none, mi, ml, mr) 155 x = vp_in x 100 := propext ⟨fun h => h.elim (fun h => h.2.2) (fun h => absurd h.1 (by decide)), fun h => Or.inl ⟨by decide, rfl, h⟩⟩
theorem ob_156 : ax_ob none 156 0 = true := Eq.trans rfl rfl
theorem sh_156 : (ax_SH 156).2 = 100 := Eq.trans rfl rfl
theorem rd_156 {mi : Nat → Nat → Int32} {ml : Nat → Nat → Int64} {mr : Nat → Nat → Nat} {x : Int32} : ax_rd (none, mi, ml, mr) 156 x = vp_in x 100 := propext ⟨fun h => h.elim (fun h => h.2.2) (fun h => absurd h.1 (by decide)), fun h => Or.inl ⟨by decide, rfl, h⟩⟩
theorem ob_157 : ax_ob none 157 0 = true := Eq.trans rfl rfl
theorem sh_157 : (ax_SH 157).2 = 7 := Eq.trans rfl rfl
theorem rd_157 {mi : Nat → Nat → Int32} {ml : Nat → Nat → Int64} {mr : Nat → Nat → Nat} {x : Int32} : ax_rd (none, mi, ml, mr) 157 x = vp_in x 7 := propext ⟨fun h => h.elim (fun h => h.2.2) (fun h => absurd h.1 (by decide)), fun h => Or.inl ⟨by decide, rfl, h⟩⟩
theorem ob_158 : ax_ob none 158 0 = true := Eq.trans rfl rfl
theorem sh_158 : (ax_SH 158).2 = 7 := Eq.trans rfl rfl
theorem rd_158 {mi : Nat → Nat → Int32} {ml : Nat → Nat → Int64} {mr : Nat → Nat → Nat} {x : Int32} : ax_rd (none, mi, ml, mr) 158 x = vp_in x 7 := propext ⟨fun h => h.elim (fun h => h.2.2) (fun h => absurd h.1 (by decide)), fun h => Or.inl ⟨by decide, rfl, h⟩⟩
theorem ob_159 : ax_ob none 159 0 = true := Eq.trans rfl rfl
theorem sh_159 : (ax_SH 159).2 = 24 := Eq.trans rfl rfl
theorem rd_159 {mi : Nat → Nat → Int32} {ml : Nat → Nat → Int64} {mr : Nat → Nat → Nat} {x : Int32} : ax_rd (none, mi, ml, mr) 159 x = vp_in x 24 := propext ⟨fun h => h.elim (fun h => h.2.2) (fun h => absurd h.1 (by decide)), fun h => Or.inl ⟨by decide, rfl, h⟩⟩
theorem ob_160 : ax_ob none 160 0 = true := Eq.trans rfl rfl
theorem sh_160 : (ax_SH 160).2 = 24 := Eq.trans rfl rfl
theorem rd_160 {mi : Nat → Nat → Int32} {ml : Nat → Nat → Int64} {mr : Nat → Nat → Nat} {x : Int32} : ax_rd (none, mi, ml, mr) 160 x = vp_in x 24 := propext ⟨fun h => h.elim (fun h => h.2.2) (fun h => absurd h.1 (by decide)), fun h => Or.inl ⟨by decide, rfl, h⟩⟩
theorem ob_161 : ax_ob none 161 0 = true := Eq.trans rfl rfl
theorem sh_161 : (ax_SH 161).2 = 24 := Eq.trans rfl rfl
theorem rd_161 {mi : Nat → Nat → Int32} {ml : Nat → Nat → Int64} {mr : Nat → Nat → Nat} {x : Int32} : ax_rd (none, mi, ml, mr) 161 x = vp_in x 24 := propext ⟨fun h => h.elim (fun h => h.2.2) (fun h => absurd h.1 (by decide)), fun h => Or.inl ⟨by decide, rfl, h⟩⟩
theorem ob_162 : ax_ob none 162 1 = true := Eq.trans rfl rfl
theorem sh_162 : (ax_SH 162).2 = 24 := Eq.trans rfl rfl
theorem ob_163 : ax_ob none 163 0 = true := Eq.trans rfl rfl
theorem sh_163 : (ax_SH 163).2 = 24 := Eq.trans rfl rfl
theorem rd_163 {mi : Nat → Nat → Int32} {ml : Nat → Nat → Int64} {mr : Nat → Nat → Nat} {x : Int32} : ax_rd (none, mi, ml, mr) 163 x = vp_in x 24 := propext ⟨fun h => h.elim (fun h => h.2.2) (fun h => absurd h.1 (by decide)), fun h => Or.inl ⟨by decide, rfl, h⟩⟩
theorem ob_164 : ax_ob none 164 1 = true := Eq.trans rfl rfl
theorem sh_164 : (ax_SH 164).2 = 24 := Eq.trans rfl rfl
theorem ob_165 : ax_ob none 165 2 = true := Eq.trans rfl rfl
theorem sh_165 : (ax_SH 165).2 = 1 := Eq.trans rfl rfl
theorem sc_8 : ax_sc 8 = 9 := Eq.trans rfl rfl
theorem sc_9 : ax_sc 9 = 10 := Eq.trans rfl rfl
theorem sc_10 : ax_sc 10 = 11 := Eq.trans rfl rfl
theorem sc_11 : ax_sc 11 = 12 := Eq.trans rfl rfl
theorem sc_12 : ax_sc 12 = 13 := Eq.trans rfl rfl
theorem sc_13 : ax_sc 13 = 14 := Eq.trans rfl rfl
theorem sc_14 : ax_sc 14 = 15 := Eq.trans rfl rfl
theorem sc_15 : ax_sc 15 = 16 := Eq.trans rfl rfl
theorem sc_16 : ax_sc 16 = 17 := Eq.trans rfl rfl
theorem sc_17 : ax_sc 17 = 18 := Eq.trans rfl rfl
theorem sc_18 : ax_sc 18 = 19 := Eq.trans rfl rfl
theorem sc_19 : ax_sc 19 = 20 := Eq.trans rfl rfl
theorem sc_20 : ax_sc 20 = 21 := Eq.trans rfl rfl
theorem sc_21 : ax_sc 21 = 22 := Eq.trans rfl rfl
theorem sc_22 : ax_sc 22 = 23 := Eq.trans rfl rfl
theorem sc_23 : ax_sc 23 = 24 := Eq.trans rfl rfl
theorem sc_24 : ax_sc 24 = 25 := Eq.trans rfl rfl
theorem sc_25 : ax_sc 25 = 26 := Eq.trans rfl rfl
theorem sc_26 : ax_sc 26 = 27 := Eq.trans rfl rfl
theorem sc_27 : ax_sc 27 = 28 := Eq.trans rfl rfl
theorem sc_28 : ax_sc 28 = 29 := Eq.trans rfl rfl
theorem sc_29 : ax_sc 29 = 30 := Eq.trans rfl rfl
theorem sc_30 : ax_sc 30 = 31 := Eq.trans rfl rfl
theorem sc_31 : ax_sc 31 = 32 := Eq.trans rfl rfl
theorem sc_32 : ax_sc 32 = 33 := Eq.trans rfl rfl
theorem sc_33 : ax_sc 33 = 34 := Eq.trans rfl rfl
theorem sc_34 : ax_sc 34 = 35 := Eq.trans rfl rfl
theorem sc_35 : ax_sc 35 = 36 := Eq.trans rfl rfl
theorem sc_36 : ax_sc 36 = 54 := Eq.trans rfl rfl
theorem sc_37 : ax_sc 37 = 38 := Eq.trans rfl rfl
theorem sc_38 : ax_sc 38 = 39 := Eq.trans rfl rfl
theorem sc_39 : ax_sc 39 = 40 := Eq.trans rfl rfl
theorem sc_40 : ax_sc 40 = 41 := Eq.trans rfl rfl
theorem sc_41 : ax_sc 41 = 42 := Eq.trans rfl rfl
theorem sc_42 : ax_sc 42 = 43 := Eq.trans rfl rfl
theorem sc_43 : ax_sc 43 = 44 := Eq.trans rfl rfl
theorem sc_44 : ax_sc 44 = 45 := Eq.trans rfl rfl
theorem sc_45 : ax_sc 45 = 46 := Eq.trans rfl rfl
theorem sc_46 : ax_sc 46 = 47 := Eq.trans rfl rfl
theorem sc_47 : ax_sc 47 = 48 := Eq.trans rfl rfl
theorem sc_48 : ax_sc 48 = 49 := Eq.trans rfl rfl
theorem sc_49 : ax_sc 49 = 50 := Eq.trans rfl rfl
theorem sc_50 : ax_sc 50 = 51 := Eq.trans rfl rfl
theorem sc_51 : ax_sc 51 = 52 := Eq.trans rfl rfl
theorem sc_52 : ax_sc 52 = 53 := Eq.trans rfl rfl
theorem sc_53 : ax_sc 53 = 81 := Eq.trans rfl rfl
theorem sc_54 : ax_sc 54 = 55 := Eq.trans rfl rfl
theorem sc_55 : ax_sc 55 = 56 := Eq.trans rfl rfl
theorem sc_56 : ax_sc 56 = 57 := Eq.trans rfl rfl
theorem sc_57 : ax_sc 57 = 58 := Eq.trans rfl rfl
theorem sc_58 : ax_sc 58 = 59 := Eq.trans rfl rfl
theorem sc_59 : ax_sc 59 = 60 := Eq.trans rfl rfl
theorem sc_60 : ax_sc 60 = 61 := Eq.trans rfl rfl
theorem sc_61 : ax_sc 61 = 62 := Eq.trans rfl rfl
theorem sc_62 : ax_sc 62 = 63 := Eq.trans rfl rfl
theorem sc_63 : ax_sc 63 = 64 := Eq.trans rfl rfl
theorem sc_64 : ax_sc 64 = 65 := Eq.trans rfl rfl
theorem sc_65 : ax_sc 65 = 66 := Eq.trans rfl rfl
theorem sc_66 : ax_sc 66 = 67 := Eq.trans rfl rfl
theorem sc_67 : ax_sc 67 = 68 := Eq.trans rfl rfl
theorem sc_68 : ax_sc 68 = 69 := Eq.trans rfl rfl
theorem sc_69 : ax_sc 69 = 70 := Eq.trans rfl rfl
theorem sc_70 : ax_sc 70 = 71 := Eq.trans rfl rfl
theorem sc_71 : ax_sc 71 = 72 := Eq.trans rfl rfl
theorem sc_72 : ax_sc 72 = 73 := Eq.trans rfl rfl
theorem sc_73 : ax_sc 73 = 74 := Eq.trans rfl rfl
theorem sc_74 : ax_sc 74 = 75 := Eq.trans rfl rfl
theorem sc_75 : ax_sc 75 = 76 := Eq.trans rfl rfl
theorem sc_76 : ax_sc 76 = 77 := Eq.trans rfl rfl
theorem sc_77 : ax_sc 77 = 78 := Eq.trans rfl rfl
theorem sc_78 : ax_sc 78 = 79 := Eq.trans rfl rfl
theorem sc_79 : ax_sc 79 = 80 := Eq.trans rfl rfl
theorem sc_80 : ax_sc 80 = 37 := Eq.trans rfl rfl
theorem sc_81 : ax_sc 81 = 82 := Eq.trans rfl rfl
theorem sc_82 : ax_sc 82 = 83 := Eq.trans rfl rfl
theorem sc_83 : ax_sc 83 = 84 := Eq.trans rfl rfl
theorem sc_84 : ax_sc 84 = 85 := Eq.trans rfl rfl
theorem sc_85 : ax_sc 85 = 86 := Eq.trans rfl rfl
theorem sc_86 : ax_sc 86 = 87 := Eq.trans rfl rfl
theorem sc_87 : ax_sc 87 = 88 := Eq.trans rfl rfl
theorem sc_88 : ax_sc 88 = 89 := Eq.trans rfl rfl
theorem sc_89 : ax_sc 89 = 90 := Eq.trans rfl rfl
theorem sc_90 : ax_sc 90 = 91 := Eq.trans rfl rfl
theorem sc_91 : ax_sc 91 = 92 := Eq.trans rfl rfl
theorem sc_92 : ax_sc 92 = 93 := Eq.trans rfl rfl
theorem sc_93 : ax_sc 93 = 94 := Eq.trans rfl rfl
theorem sc_94 : ax_sc 94 = 95 := Eq.trans rfl rfl
theorem sc_95 : ax_sc 95 = 96 := Eq.trans rfl rfl
theorem sc_96 : ax_sc 96 = 97 := Eq.trans rfl rfl
theorem sc_97 : ax_sc 97 = 98 := Eq.trans rfl rfl
theorem sc_98 : ax_sc 98 = 99 := Eq.trans rfl rfl
theorem sc_99 : ax_sc 99 = 100 := Eq.trans rfl rfl
theorem sc_100 : ax_sc 100 = 101 := Eq.trans rfl rfl
theorem sc_101 : ax_sc 101 = 102 := Eq.trans rfl rfl
theorem sc_102 : ax_sc 102 = 103 := Eq.trans rfl rfl
theorem sc_103 : ax_sc 103 = 104 := Eq.trans rfl rfl
theorem sc_104 : ax_sc 104 = 105 := Eq.trans rfl rfl
theorem sc_105 : ax_sc 105 = 106 := Eq.trans rfl rfl
theorem sc_106 : ax_sc 106 = 107 := Eq.trans rfl rfl
theorem sc_107 : ax_sc 107 = 108 := Eq.trans rfl rfl
theorem sc_108 : ax_sc 108 = 109 := Eq.trans rfl rfl
theorem sc_109 : ax_sc 109 = 110 := Eq.trans rfl rfl
theorem sc_110 : ax_sc 110 = 111 := Eq.trans rfl rfl
theorem sc_111 : ax_sc 111 = 112 := Eq.trans rfl rfl
theorem sc_112 : ax_sc 112 = 113 := Eq.trans rfl rfl
theorem sc_113 : ax_sc 113 = 114 := Eq.trans rfl rfl
theorem sc_114 : ax_sc 114 = 115 := Eq.trans rfl rfl
theorem sc_115 : ax_sc 115 = 116 := Eq.trans rfl rfl
theorem sc_116 : ax_sc 116 = 117 := Eq.trans rfl rfl
theorem sc_117 : ax_sc 117 = 118 := Eq.trans rfl rfl
theorem sc_118 : ax_sc 118 = 119 := Eq.trans rfl rfl
theorem sc_119 : ax_sc 119 = 120 := Eq.trans rfl rfl
theorem sc_120 : ax_sc 120 = 121 := Eq.trans rfl rfl
theorem sc_121 : ax_sc 121 = 122 := Eq.trans rfl rfl
theorem sc_122 : ax_sc 122 = 123 := Eq.trans rfl rfl
theorem sc_123 : ax_sc 123 = 124 := Eq.trans rfl rfl
theorem sc_124 : ax_sc 124 = 125 := Eq.trans rfl rfl
theorem sc_125 : ax_sc 125 = 126 := Eq.trans rfl rfl
theorem sc_126 : ax_sc 126 = 127 := Eq.trans rfl rfl
theorem sc_127 : ax_sc 127 = 128 := Eq.trans rfl rfl
theorem sc_128 : ax_sc 128 = 129 := Eq.trans rfl rfl
theorem sc_129 : ax_sc 129 = 130 := Eq.trans rfl rfl
theorem sc_130 : ax_sc 130 = 131 := Eq.trans rfl rfl
theorem sc_131 : ax_sc 131 = 132 := Eq.trans rfl rfl
theorem sc_132 : ax_sc 132 = 133 := Eq.trans rfl rfl
theorem sc_133 : ax_sc 133 = 134 := Eq.trans rfl rfl
theorem sc_134 : ax_sc 134 = 135 := Eq.trans rfl rfl
theorem sc_135 : ax_sc 135 = 136 := Eq.trans rfl rfl
theorem sc_136 : ax_sc 136 = 137 := Eq.trans rfl rfl
theorem sc_137 : ax_sc 137 = 138 := Eq.trans rfl rfl
theorem sc_138 : ax_sc 138 = 139 := Eq.trans rfl rfl
theorem sc_139 : ax_sc 139 = 140 := Eq.trans rfl rfl
theorem sc_140 : ax_sc 140 = 141 := Eq.trans rfl rfl
theorem sc_141 : ax_sc 141 = 142 := Eq.trans rfl rfl
theorem sc_142 : ax_sc 142 = 143 := Eq.trans rfl rfl
theorem sc_143 : ax_sc 143 = 144 := Eq.trans rfl rfl
theorem sc_144 : ax_sc 144 = 145 := Eq.trans rfl rfl
theorem sc_145 : ax_sc 145 = 146 := Eq.trans rfl rfl
theorem sc_146 : ax_sc 146 = 147 := Eq.trans rfl rfl
theorem sc_147 : ax_sc 147 = 148 := Eq.trans rfl rfl
theorem sc_148 : ax_sc 148 = 149 := Eq.trans rfl rfl
theorem sc_149 : ax_sc 149 = 150 := Eq.trans rfl rfl
theorem sc_150 : ax_sc 150 = 151 := Eq.trans rfl rfl
theorem sc_151 : ax_sc 151 = 152 := Eq.trans rfl rfl
theorem sc_152 : ax_sc 152 = 153 := Eq.trans rfl rfl
theorem sc_153 : ax_sc 153 = 154 := Eq.trans rfl rfl
theorem sc_154 : ax_sc 154 = 155 := Eq.trans rfl rfl
theorem sc_155 : ax_sc 155 = 156 := Eq.trans rfl rfl
theorem sc_156 : ax_sc 156 = 157 := Eq.trans rfl rfl
theorem sc_157 : ax_sc 157 = 158 := Eq.trans rfl rfl
theorem sc_158 : ax_sc 158 = 159 := Eq.trans rfl rfl
theorem sc_159 : ax_sc 159 = 160 := Eq.trans rfl rfl
theorem sc_160 : ax_sc 160 = 161 := Eq.trans rfl rfl
theorem sc_161 : ax_sc 161 = 162 := Eq.trans rfl rfl
theorem sc_162 : ax_sc 162 = 163 := Eq.trans rfl rfl
theorem sc_163 : ax_sc 163 = 164 := Eq.trans rfl rfl
theorem sc_164 : ax_sc 164 = 165 := Eq.trans rfl rfl
theorem sc_165 : ax_sc 165 = 166 := Eq.trans rfl rfl
def ax_isT (t : Nat) : Bool := (t == 11) || (t == 37) || (t == 55) || (t == 81) || (t == 104)
theorem isT_or {t : Nat} (h : ax_isT t = true) : t = 11 ∨ t = 37 ∨ t = 55 ∨ t = 81 ∨ t = 104 := by simpa [ax_isT, or_assoc] using h
theorem isT_11 : ax_isT 11 = true := Eq.trans rfl rfl
theorem isT_37 : ax_isT 37 = true := Eq.trans rfl rfl
theorem isT_55 : ax_isT 55 = true := Eq.trans rfl rfl
theorem isT_81 : ax_isT 81 = true := Eq.trans rfl rfl
theorem isT_104 : ax_isT 104 = true := Eq.trans rfl rfl
theorem rT_1 {L P S a b c t : Nat} (h : ax_isT t = true) : rf_ L P S a b c t 1 = t + 1 := by rcases isT_or h with rfl | rfl | rfl | rfl | rfl <;> rfl
theorem rT_2 {L P S a b c t : Nat} (h : ax_isT t = true) : rf_ L P S a b c t 2 = t + 2 := by rcases isT_or h with rfl | rfl | rfl | rfl | rfl <;> rfl
theorem rT_4 {L P S a b c t : Nat} (h : ax_isT t = true) : rf_ L P S a b c t 4 = t + 3 := by rcases isT_or h with rfl | rfl | rfl | rfl | rfl <;> rfl
theorem rT_5 {L P S a b c t : Nat} (h : ax_isT t = true) : rf_ L P S a b c t 5 = t + 4 := by rcases isT_or h with rfl | rfl | rfl | rfl | rfl <;> rfl
theorem rT_6 {L P S a b c t : Nat} (h : ax_isT t = true) : rf_ L P S a b c t 6 = t + 5 := by rcases isT_or h with rfl | rfl | rfl | rfl | rfl <;> rfl
theorem rT_9 {L P S a b c t : Nat} (h : ax_isT t = true) : rf_ L P S a b c t 9 = t + 6 := by rcases isT_or h with rfl | rfl | rfl | rfl | rfl <;> rfl
theorem rT_10 {L P S a b c t : Nat} (h : ax_isT t = true) : rf_ L P S a b c t 10 = t + 7 := by rcases isT_or h with rfl | rfl | rfl | rfl | rfl <;> rfl
theorem rT_11 {L P S a b c t : Nat} (h : ax_isT t = true) : rf_ L P S a b c t 11 = t + 8 := by rcases isT_or h with rfl | rfl | rfl | rfl | rfl <;> rfl
theorem rT_13 {L P S a b c t : Nat} (h : ax_isT t = true) : rf_ L P S a b c t 13 = t + 9 := by rcases isT_or h with rfl | rfl | rfl | rfl | rfl <;> rfl
theorem rT_14 {L P S a b c t : Nat} (h : ax_isT t = true) : rf_ L P S a b c t 14 = t + 10 := by rcases isT_or h with rfl | rfl | rfl | rfl | rfl <;> rfl
theorem obT {t : Nat} (h : ax_isT t = true) : ax_ob none t 13 = true := by rcases isT_or h with rfl | rfl | rfl | rfl | rfl <;> rfl
theorem obT_1 {t : Nat} (h : ax_isT t = true) : ax_ob none (t + 1) 0 = true := by rcases isT_or h with rfl | rfl | rfl | rfl | rfl <;> rfl
theorem shT_1 {t : Nat} (h : ax_isT t = true) : (ax_SH (t + 1)).2 = 7 := by rcases isT_or h with rfl | rfl | rfl | rfl | rfl <;> rfl
theorem rdT_1 {mi : Nat → Nat → Int32} {ml : Nat → Nat → Int64} {mr : Nat → Nat → Nat} {x : Int32} {t : Nat} (h : ax_isT t = true) : ax_rd (none, mi, ml, mr) (t + 1) x = vp_in x 7 := by rcases isT_or h with rfl | rfl | rfl | rfl | rfl <;> exact propext ⟨fun h => h.elim (fun h => h.2.2) (fun h => absurd h.1 (by decide)), fun h => Or.inl ⟨by decide, rfl, h⟩⟩
theorem obT_2 {t : Nat} (h : ax_isT t = true) : ax_ob none (t + 2) 0 = true := by rcases isT_or h with rfl | rfl | rfl | rfl | rfl <;> rfl
theorem shT_2 {t : Nat} (h : ax_isT t = true) : (ax_SH (t + 2)).2 = 7 := by rcases isT_or h with rfl | rfl | rfl | rfl | rfl <;> rfl
theorem rdT_2 {mi : Nat → Nat → Int32} {ml : Nat → Nat → Int64} {mr : Nat → Nat → Nat} {x : Int32} {t : Nat} (h : ax_isT t = true) : ax_rd (none, mi, ml, mr) (t + 2) x = vp_in x 7 := by rcases isT_or h with rfl | rfl | rfl | rfl | rfl <;> exact propext ⟨fun h => h.elim (fun h => h.2.2) (fun h => absurd h.1 (by decide)), fun h => Or.inl ⟨by decide, rfl, h⟩⟩
theorem obT_3 {t : Nat} (h : ax_isT t = true) : ax_ob none (t + 3) 0 = true := by rcases isT_or h with rfl | rfl | rfl | rfl | rfl <;> rfl
theorem shT_3 {t : Nat} (h : ax_isT t = true) : (ax_SH (t + 3)).2 = 9 := by rcases isT_or h with rfl | rfl | rfl | rfl | rfl <;> rfl
theorem rdT_3 {mi : Nat → Nat → Int32} {ml : Nat → Nat → Int64} {mr : Nat → Nat → Nat} {x : Int32} {t : Nat} (h : ax_isT t = true) : ax_rd (none, mi, ml, mr) (t + 3) x = vp_in x 9 := by rcases isT_or h with rfl | rfl | rfl | rfl | rfl <;> exact propext ⟨fun h => h.elim (fun h => h.2.2) (fun h => absurd h.1 (by decide)), fun h => Or.inl ⟨by decide, rfl, h⟩⟩
theorem obT_4 {t : Nat} (h : ax_isT t = true) : ax_ob none (t + 4) 0 = true := by rcases isT_or h with rfl | rfl | rfl | rfl | rfl <;> rfl
theorem shT_4 {t : Nat} (h : ax_isT t = true) : (ax_SH (t + 4)).2 = 9 := by rcases isT_or h with rfl | rfl | rfl | rfl | rfl <;> rfl
theorem rdT_4 {mi : Nat → Nat → Int32} {ml : Nat → Nat → Int64} {mr : Nat → Nat → Nat} {x : Int32} {t : Nat} (h : ax_isT t = true) : ax_rd (none, mi, ml, mr) (t + 4) x = vp_in x 9 := by rcases isT_or h with rfl | rfl | rfl | rfl | rfl <;> exact propext ⟨fun h => h.elim (fun h => h.2.2) (fun h => absurd h.1 (by decide)), fun h => Or.inl ⟨by decide, rfl, h⟩⟩
theorem obT_5 {t : Nat} (h : ax_isT t = true) : ax_ob none (t + 5) 0 = true := by rcases isT_or h with rfl | rfl | rfl | rfl | rfl <;> rfl
theorem shT_5 {t : Nat} (h : ax_isT t = true) : (ax_SH (t + 5)).2 = 9 := by rcases isT_or h with rfl | rfl | rfl | rfl | rfl <;> rfl
theorem rdT_5 {mi : Nat → Nat → Int32} {ml : Nat → Nat → Int64} {mr : Nat → Nat → Nat} {x : Int32} {t : Nat} (h : ax_isT t = true) : ax_rd (none, mi, ml, mr) (t + 5) x = vp_in x 9 := by rcases isT_or h with rfl | rfl | rfl | rfl | rfl <;> exact propext ⟨fun h => h.elim (fun h => h.2.2) (fun h => absurd h.1 (by decide)), fun h => Or.inl ⟨by decide, rfl, h⟩⟩
theorem obT_6 {t : Nat} (h : ax_isT t = true) : ax_ob none (t + 6) 0 = true := by rcases isT_or h with rfl | rfl | rfl | rfl | rfl <;> rfl
theorem shT_6 {t : Nat} (h : ax_isT t = true) : (ax_SH (t + 6)).2 = 12 := by rcases isT_or h with rfl | rfl | rfl | rfl | rfl <;> rfl
theorem rdT_6 {mi : Nat → Nat → Int32} {ml : Nat → Nat → Int64} {mr : Nat → Nat → Nat} {x : Int32} {t : Nat} (h : ax_isT t = true) : ax_rd (none, mi, ml, mr) (t + 6) x = vp_in x 12 := by rcases isT_or h with rfl | rfl | rfl | rfl | rfl <;> exact propext ⟨fun h => h.elim (fun h => h.2.2) (fun h => absurd h.1 (by decide)), fun h => Or.inl ⟨by decide, rfl, h⟩⟩
theorem obT_7 {t : Nat} (h : ax_isT t = true) : ax_ob none (t + 7) 0 = true := by rcases isT_or h with rfl | rfl | rfl | rfl | rfl <;> rfl
theorem shT_7 {t : Nat} (h : ax_isT t = true) : (ax_SH (t + 7)).2 = 12 := by rcases isT_or h with rfl | rfl | rfl | rfl | rfl <;> rfl
theorem rdT_7 {mi : Nat → Nat → Int32} {ml : Nat → Nat → Int64} {mr : Nat → Nat → Nat} {x : Int32} {t : Nat} (h : ax_isT t = true) : ax_rd (none, mi, ml, mr) (t + 7) x = vp_in x 12 := by rcases isT_or h with rfl | rfl | rfl | rfl | rfl <;> exact propext ⟨fun h => h.elim (fun h => h.2.2) (fun h => absurd h.1 (by decide)), fun h => Or.inl ⟨by decide, rfl, h⟩⟩
theorem obT_8 {t : Nat} (h : ax_isT t = true) : ax_ob none (t + 8) 0 = true := by rcases isT_or h with rfl | rfl | rfl | rfl | rfl <;> rfl
theorem shT_8 {t : Nat} (h : ax_isT t = true) : (ax_SH (t + 8)).2 = 12 := by rcases isT_or h with rfl | rfl | rfl | rfl | rfl <;> rfl
theorem rdT_8 {mi : Nat → Nat → Int32} {ml : Nat → Nat → Int64} {mr : Nat → Nat → Nat} {x : Int32} {t : Nat} (h : ax_isT t = true) : ax_rd (none, mi, ml, mr) (t + 8) x = vp_in x 12 := by rcases isT_or h with rfl | rfl | rfl | rfl | rfl <;> exact propext ⟨fun h => h.elim (fun h => h.2.2) (fun h => absurd h.1 (by decide)), fun h => Or.inl ⟨by decide, rfl, h⟩⟩
theorem obT_9 {t : Nat} (h : ax_isT t = true) : ax_ob none (t + 9) 0 = true := by rcases isT_or h with rfl | rfl | rfl | rfl | rfl <;> rfl
theorem shT_9 {t : Nat} (h : ax_isT t = true) : (ax_SH (t + 9)).2 = 3 := by rcases isT_or h with rfl | rfl | rfl | rfl | rfl <;> rfl
theorem rdT_9 {mi : Nat → Nat → Int32} {ml : Nat → Nat → Int64} {mr : Nat → Nat → Nat} {x : Int32} {t : Nat} (h : ax_isT t = true) : ax_rd (none, mi, ml, mr) (t + 9) x = vp_in x 3 := by rcases isT_or h with rfl | rfl | rfl | rfl | rfl <;> exact propext ⟨fun h => h.elim (fun h => h.2.2) (fun h => absurd h.1 (by decide)), fun h => Or.inl ⟨by decide, rfl, h⟩⟩
theorem obT_10 {t : Nat} (h : ax_isT t = true) : ax_ob none (t + 10) 0 = true := by rcases isT_or h with rfl | rfl | rfl | rfl | rfl <;> rfl
theorem shT_10 {t : Nat} (h : ax_isT t = true) : (ax_SH (t + 10)).2 = 3 := by rcases isT_or h with rfl | rfl | rfl | rfl | rfl <;> rfl
theorem rdT_10 {mi : Nat → Nat → Int32} {ml : Nat → Nat → Int64} {mr : Nat → Nat → Nat} {x : Int32} {t : Nat} (h : ax_isT t = true) : ax_rd (none, mi, ml, mr) (t + 10) x = vp_in x 3 := by rcases isT_or h with rfl | rfl | rfl | rfl | rfl <;> exact propext ⟨fun h => h.elim (fun h => h.2.2) (fun h => absurd h.1 (by decide)), fun h => Or.inl ⟨by decide, rfl, h⟩⟩
def ax_isL (a1 : Nat) : Bool := (a1 == 22) || (a1 == 66)
theorem isL_or {a1 : Nat} (h : ax_isL a1 = true) : a1 = 22 ∨ a1 = 66 := by simpa [ax_isL, or_assoc] using h
theorem isL_22 : ax_isL 22 = true := Eq.trans rfl rfl
theorem isL_66 : ax_isL 66 = true := Eq.trans rfl rfl
theorem rL_0 {L P S a b c a1 : Nat} (h : ax_isL a1 = true) : rf_ L P S a b c a1 0 = a1 + 1 := by rcases isL_or h with rfl | rfl <;> rfl
theorem rL_2 {L P S a b c a1 : Nat} (h : ax_isL a1 = true) : rf_ L P S a b c a1 2 = a1 + 2 := by rcases isL_or h with rfl | rfl <;> rfl
theorem rL_3 {L P S a b c a1 : Nat} (h : ax_isL a1 = true) : rf_ L P S a b c a1 3 = a1 + 3 := by rcases isL_or h with rfl | rfl <;> rfl
theorem rL_4 {L P S a b c a1 : Nat} (h : ax_isL a1 = true) : rf_ L P S a b c a1 4 = a1 + 4 := by rcases isL_or h with rfl | rfl <;> rfl
theorem rL_5 {L P S a b c a1 : Nat} (h : ax_isL a1 = true) : rf_ L P S a b c a1 5 = a1 + 5 := by rcases isL_or h with rfl | rfl <;> rfl
theorem rL_6 {L P S a b c a1 : Nat} (h : ax_isL a1 = true) : rf_ L P S a b c a1 6 = a1 + 6 := by rcases isL_or h with rfl | rfl <;> rfl
theorem obL {a1 : Nat} (h : ax_isL a1 = true) : ax_ob none a1 4 = true := by rcases isL_or h with rfl | rfl <;> rfl
theorem obL_1 {a1 : Nat} (h : ax_isL a1 = true) : ax_ob none (a1 + 1) 0 = true := by rcases isL_or h with rfl | rfl <;> rfl
theorem shL_1 {a1 : Nat} (h : ax_isL a1 = true) : (ax_SH (a1 + 1)).2 = 64 := by rcases isL_or h with rfl | rfl <;> rfl
theorem rdL_1 {mi : Nat → Nat → Int32} {ml : Nat → Nat → Int64} {mr : Nat → Nat → Nat} {x : Int32} {a1 : Nat} (h : ax_isL a1 = true) : ax_rd (none, mi, ml, mr) (a1 + 1) x = vp_in x 64 := by rcases isL_or h with rfl | rfl <;> exact propext ⟨fun h => h.elim (fun h => h.2.2) (fun h => absurd h.1 (by decide)), fun h => Or.inl ⟨by decide, rfl, h⟩⟩
theorem obL_2 {a1 : Nat} (h : ax_isL a1 = true) : ax_ob none (a1 + 2) 0 = true := by rcases isL_or h with rfl | rfl <;> rfl
theorem shL_2 {a1 : Nat} (h : ax_isL a1 = true) : (ax_SH (a1 + 2)).2 = 3 := by rcases isL_or h with rfl | rfl <;> rfl
theorem rdL_2 {mi : Nat → Nat → Int32} {ml : Nat → Nat → Int64} {mr : Nat → Nat → Nat} {x : Int32} {a1 : Nat} (h : ax_isL a1 = true) : ax_rd (none, mi, ml, mr) (a1 + 2) x = vp_in x 3 := by rcases isL_or h with rfl | rfl <;> exact propext ⟨fun h => h.elim (fun h => h.2.2) (fun h => absurd h.1 (by decide)), fun h => Or.inl ⟨by decide, rfl, h⟩⟩
theorem obL_3 {a1 : Nat} (h : ax_isL a1 = true) : ax_ob none (a1 + 3) 0 = true := by rcases isL_or h with rfl | rfl <;> rfl
theorem shL_3 {a1 : Nat} (h : ax_isL a1 = true) : (ax_SH (a1 + 3)).2 = 3 := by rcases isL_or h with rfl | rfl <;> rfl
theorem rdL_3 {mi : Nat → Nat → Int32} {ml : Nat → Nat → Int64} {mr : Nat → Nat → Nat} {x : Int32} {a1 : Nat} (h : ax_isL a1 = true) : ax_rd (none, mi, ml, mr) (a1 + 3) x = vp_in x 3 := by rcases isL_or h with rfl | rfl <;> exact propext ⟨fun h => h.elim (fun h => h.2.2) (fun h => absurd h.1 (by decide)), fun h => Or.inl ⟨by decide, rfl, h⟩⟩
theorem obL_4 {a1 : Nat} (h : ax_isL a1 = true) : ax_ob none (a1 + 4) 1 = true := by rcases isL_or h with rfl | rfl <;> rfl
theorem shL_4 {a1 : Nat} (h : ax_isL a1 = true) : (ax_SH (a1 + 4)).2 = 3 := by rcases isL_or h with rfl | rfl <;> rfl
theorem obL_5 {a1 : Nat} (h : ax_isL a1 = true) : ax_ob none (a1 + 5) 2 = true := by rcases isL_or h with rfl | rfl <;> rfl
theorem shL_5 {a1 : Nat} (h : ax_isL a1 = true) : (ax_SH (a1 + 5)).2 = 7 := by rcases isL_or h with rfl | rfl <;> rfl
theorem obL_6 {a1 : Nat} (h : ax_isL a1 = true) : ax_ob none (a1 + 6) 2 = true := by rcases isL_or h with rfl | rfl <;> rfl
theorem shL_6 {a1 : Nat} (h : ax_isL a1 = true) : (ax_SH (a1 + 6)).2 = 64 := by rcases isL_or h with rfl | rfl <;> rfl
def ax_isP (p1 : Nat) : Bool := (p1 == 10) || (p1 == 54)
theorem isP_or {p1 : Nat} (h : ax_isP p1 = true) : p1 = 10 ∨ p1 = 54 := by simpa [ax_isP, or_assoc] using h
theorem isP_10 : ax_isP 10 = true := Eq.trans rfl rfl
theorem isP_54 : ax_isP 54 = true := Eq.trans rfl rfl
theorem rP_0 {L P S a b c p1 : Nat} (h : ax_isP p1 = true) : rf_ L P S a b c p1 0 = p1 + 1 := by rcases isP_or h with rfl | rfl <;> rfl
theorem rP_1 {L P S a b c p1 : Nat} (h : ax_isP p1 = true) : rf_ L P S a b c p1 1 = p1 + 12 := by rcases isP_or h with rfl | rfl <;> rfl
theorem rP_2 {L P S a b c p1 : Nat} (h : ax_isP p1 = true) : rf_ L P S a b c p1 2 = p1 + 19 := by rcases isP_or h with rfl | rfl <;> rfl
theorem rP_3 {L P S a b c p1 : Nat} (h : ax_isP p1 = true) : rf_ L P S a b c p1 3 = p1 + 21 := by rcases isP_or h with rfl | rfl <;> rfl
theorem rP_4 {L P S a b c p1 : Nat} (h : ax_isP p1 = true) : rf_ L P S a b c p1 4 = p1 + 23 := by rcases isP_or h with rfl | rfl <;> rfl
theorem rP_5 {L P S a b c p1 : Nat} (h : ax_isP p1 = true) : rf_ L P S a b c p1 5 = p1 + 25 := by rcases isP_or h with rfl | rfl <;> rfl
theorem rP_6 {L P S a b c p1 : Nat} (h : ax_isP p1 = true) : rf_ L P S a b c p1 6 = p1 + 26 := by rcases isP_or h with rfl | rfl <;> rfl
theorem obP {p1 : Nat} (h : ax_isP p1 = true) : ax_ob none p1 9 = true := by rcases isP_or h with rfl | rfl <;> rfl
theorem obP_2 {p1 : Nat} (h : ax_isP p1 = true) : ax_ob none (p1 + 2) 0 = true := by rcases isP_or h with rfl | rfl <;> rfl
theorem shP_2 {p1 : Nat} (h : ax_isP p1 = true) : (ax_SH (p1 + 2)).2 = 7 := by rcases isP_or h with rfl | rfl <;> rfl
theorem rdP_2 {mi : Nat → Nat → Int32} {ml : Nat → Nat → Int64} {mr : Nat → Nat → Nat} {x : Int32} {p1 : Nat} (h : ax_isP p1 = true) : ax_rd (none, mi, ml, mr) (p1 + 2) x = vp_in x 7 := by rcases isP_or h with rfl | rfl <;> exact propext ⟨fun h => h.elim (fun h => h.2.2) (fun h => absurd h.1 (by decide)), fun h => Or.inl ⟨by decide, rfl, h⟩⟩
theorem obP_3 {p1 : Nat} (h : ax_isP p1 = true) : ax_ob none (p1 + 3) 0 = true := by rcases isP_or h with rfl | rfl <;> rfl
theorem shP_3 {p1 : Nat} (h : ax_isP p1 = true) : (ax_SH (p1 + 3)).2 = 7 := by rcases isP_or h with rfl | rfl <;> rfl
theorem rdP_3 {mi : Nat → Nat → Int32} {ml : Nat → Nat → Int64} {mr : Nat → Nat → Nat} {x : Int32} {p1 : Nat} (h : ax_isP p1 = true) : ax_rd (none, mi, ml, mr) (p1 + 3) x = vp_in x 7 := by rcases isP_or h with rfl | rfl <;> exact propext ⟨fun h => h.elim (fun h => h.2.2) (fun h => absurd h.1 (by decide)), fun h => Or.inl ⟨by decide, rfl, h⟩⟩
theorem obP_4 {p1 : Nat} (h : ax_isP p1 = true) : ax_ob none (p1 + 4) 0 = true := by rcases isP_or h with rfl | rfl <;> rfl
theorem shP_4 {p1 : Nat} (h : ax_isP p1 = true) : (ax_SH (p1 + 4)).2 = 9 := by rcases isP_or h with rfl | rfl <;> rfl
theorem rdP_4 {mi : Nat → Nat → Int32} {ml : Nat → Nat → Int64} {mr : Nat → Nat → Nat} {x : Int32} {p1 : Nat} (h : ax_isP p1 = true) : ax_rd (none, mi, ml, mr) (p1 + 4) x = vp_in x 9 := by rcases isP_or h with rfl | rfl <;> exact propext ⟨fun h => h.elim (fun h => h.2.2) (fun h => absurd h.1 (by decide)), fun h => Or.inl ⟨by decide, rfl, h⟩⟩
theorem obP_5 {p1 : Nat} (h : ax_isP p1 = true) : ax_ob none (p1 + 5) 0 = true := by rcases isP_or h with rfl | rfl <;> rfl
theorem shP_5 {p1 : Nat} (h : ax_isP p1 = true) : (ax_SH (p1 + 5)).2 = 9 := by rcases isP_or h with rfl | rfl <;> rfl
theorem rdP_5 {mi : Nat → Nat → Int32} {ml : Nat → Nat → Int64} {mr : Nat → Nat → Nat} {x : Int32} {p1 : Nat} (h : ax_isP p1 = true) : ax_rd (none, mi, ml, mr) (p1 + 5) x = vp_in x 9 := by rcases isP_or h with rfl | rfl <;> exact propext ⟨fun h => h.elim (fun h => h.2.2) (fun h => absurd h.1 (by decide)), fun h => Or.inl ⟨by decide, rfl, h⟩⟩
theorem obP_6 {p1 : Nat} (h : ax_isP p1 = true) : ax_ob none (p1 + 6) 0 = true := by rcases isP_or h with rfl | rfl <;> rfl
theorem shP_6 {p1 : Nat} (h : ax_isP p1 = true) : (ax_SH (p1 + 6)).2 = 9 := by rcases isP_or h with rfl | rfl <;> rfl
theorem rdP_6 {mi : Nat → Nat → Int32} {ml : Nat → Nat → Int64} {mr : Nat → Nat → Nat} {x : Int32} {p1 : Nat} (h : ax_isP p1 = true) : ax_rd (none, mi, ml, mr) (p1 + 6) x = vp_in x 9 := by rcases isP_or h with rfl | rfl <;> exact propext ⟨fun h => h.elim (fun h => h.2.2) (fun h => absurd h.1 (by decide)), fun h => Or.inl ⟨by decide, rfl, h⟩⟩
theorem obP_7 {p1 : Nat} (h : ax_isP p1 = true) : ax_ob none (p1 + 7) 0 = true := by rcases isP_or h with rfl | rfl <;> rfl
theorem shP_7 {p1 : Nat} (h : ax_isP p1 = true) : (ax_SH (p1 + 7)).2 = 12 := by rcases isP_or h with rfl | rfl <;> rfl
theorem rdP_7 {mi : Nat → Nat → Int32} {ml : Nat → Nat → Int64} {mr : Nat → Nat → Nat} {x : Int32} {p1 : Nat} (h : ax_isP p1 = true) : ax_rd (none, mi, ml, mr) (p1 + 7) x = vp_in x 12 := by rcases isP_or h with rfl | rfl <;> exact propext ⟨fun h => h.elim (fun h => h.2.2) (fun h => absurd h.1 (by decide)), fun h => Or.inl ⟨by decide, rfl, h⟩⟩
theorem obP_8 {p1 : Nat} (h : ax_isP p1 = true) : ax_ob none (p1 + 8) 0 = true := by rcases isP_or h with rfl | rfl <;> rfl
theorem shP_8 {p1 : Nat} (h : ax_isP p1 = true) : (ax_SH (p1 + 8)).2 = 12 := by rcases isP_or h with rfl | rfl <;> rfl
theorem rdP_8 {mi : Nat → Nat → Int32} {ml : Nat → Nat → Int64} {mr : Nat → Nat → Nat} {x : Int32} {p1 : Nat} (h : ax_isP p1 = true) : ax_rd (none, mi, ml, mr) (p1 + 8) x = vp_in x 12 := by rcases isP_or h with rfl | rfl <;> exact propext ⟨fun h => h.elim (fun h => h.2.2) (fun h => absurd h.1 (by decide)), fun h => Or.inl ⟨by decide, rfl, h⟩⟩
theorem obP_9 {p1 : Nat} (h : ax_isP p1 = true) : ax_ob none (p1 + 9) 0 = true := by rcases isP_or h with rfl | rfl <;> rfl
theorem shP_9 {p1 : Nat} (h : ax_isP p1 = true) : (ax_SH (p1 + 9)).2 = 12 := by rcases isP_or h with rfl | rfl <;> rfl
theorem rdP_9 {mi : Nat → Nat → Int32} {ml : Nat → Nat → Int64} {mr : Nat → Nat → Nat} {x : Int32} {p1 : Nat} (h : ax_isP p1 = true) : ax_rd (none, mi, ml, mr) (p1 + 9) x = vp_in x 12 := by rcases isP_or h with rfl | rfl <;> exact propext ⟨fun h => h.elim (fun h => h.2.2) (fun h => absurd h.1 (by decide)), fun h => Or.inl ⟨by decide, rfl, h⟩⟩
theorem obP_10 {p1 : Nat} (h : ax_isP p1 = true) : ax_ob none (p1 + 10) 0 = true := by rcases isP_or h with rfl | rfl <;> rfl
theorem shP_10 {p1 : Nat} (h : ax_isP p1 = true) : (ax_SH (p1 + 10)).2 = 3 := by rcases isP_or h with rfl | rfl <;> rfl
theorem rdP_10 {mi : Nat → Nat → Int32} {ml : Nat → Nat → Int64} {mr : Nat → Nat → Nat} {x : Int32} {p1 : Nat} (h : ax_isP p1 = true) : ax_rd (none, mi, ml, mr) (p1 + 10) x = vp_in x 3 := by rcases isP_or h with rfl | rfl <;> exact propext ⟨fun h => h.elim (fun h => h.2.2) (fun h => absurd h.1 (by decide)), fun h => Or.inl ⟨by decide, rfl, h⟩⟩
theorem obP_11 {p1 : Nat} (h : ax_isP p1 = true) : ax_ob none (p1 + 11) 0 = true := by rcases isP_or h with rfl | rfl <;> rfl
theorem shP_11 {p1 : Nat} (h : ax_isP p1 = true) : (ax_SH (p1 + 11)).2 = 3 := by rcases isP_or h with rfl | rfl <;> rfl
theorem rdP_11 {mi : Nat → Nat → Int32} {ml : Nat → Nat → Int64} {mr : Nat → Nat → Nat} {x : Int32} {p1 : Nat} (h : ax_isP p1 = true) : ax_rd (none, mi, ml, mr) (p1 + 11) x = vp_in x 3 := by rcases isP_or h with rfl | rfl <;> exact propext ⟨fun h => h.elim (fun h => h.2.2) (fun h => absurd h.1 (by decide)), fun h => Or.inl ⟨by decide, rfl, h⟩⟩
theorem obP_13 {p1 : Nat} (h : ax_isP p1 = true) : ax_ob none (p1 + 13) 0 = true := by rcases isP_or h with rfl | rfl <;> rfl
theorem shP_13 {p1 : Nat} (h : ax_isP p1 = true) : (ax_SH (p1 + 13)).2 = 64 := by rcases isP_or h with rfl | rfl <;> rfl
theorem rdP_13 {mi : Nat → Nat → Int32} {ml : Nat → Nat → Int64} {mr : Nat → Nat → Nat} {x : Int32} {p1 : Nat} (h : ax_isP p1 = true) : ax_rd (none, mi, ml, mr) (p1 + 13) x = vp_in x 64 := by rcases isP_or h with rfl | rfl <;> exact propext ⟨fun h => h.elim (fun h => h.2.2) (fun h => absurd h.1 (by decide)), fun h => Or.inl ⟨by decide, rfl, h⟩⟩
theorem obP_14 {p1 : Nat} (h : ax_isP p1 = true) : ax_ob none (p1 + 14) 0 = true := by rcases isP_or h with rfl | rfl <;> rfl
theorem shP_14 {p1 : Nat} (h : ax_isP p1 = true) : (ax_SH (p1 + 14)).2 = 3 := by rcases isP_or h with rfl | rfl <;> rfl
theorem rdP_14 {mi : Nat → Nat → Int32} {ml : Nat → Nat → Int64} {mr : Nat → Nat → Nat} {x : Int32} {p1 : Nat} (h : ax_isP p1 = true) : ax_rd (none, mi, ml, mr) (p1 + 14) x = vp_in x 3 := by rcases isP_or h with rfl | rfl <;> exact propext ⟨fun h => h.elim (fun h => h.2.2) (fun h => absurd h.1 (by decide)), fun h => Or.inl ⟨by decide, rfl, h⟩⟩
theorem obP_15 {p1 : Nat} (h : ax_isP p1 = true) : ax_ob none (p1 + 15) 0 = true := by rcases isP_or h with rfl | rfl <;> rfl
theorem shP_15 {p1 : Nat} (h : ax_isP p1 = true) : (ax_SH (p1 + 15)).2 = 3 := by rcases isP_or h with rfl | rfl <;> rfl
theorem rdP_15 {mi : Nat → Nat → Int32} {ml : Nat → Nat → Int64} {mr : Nat → Nat → Nat} {x : Int32} {p1 : Nat} (h : ax_isP p1 = true) : ax_rd (none, mi, ml, mr) (p1 + 15) x = vp_in x 3 := by rcases isP_or h with rfl | rfl <;> exact propext ⟨fun h => h.elim (fun h => h.2.2) (fun h => absurd h.1 (by decide)), fun h => Or.inl ⟨by decide, rfl, h⟩⟩
theorem obP_16 {p1 : Nat} (h : ax_isP p1 = true) : ax_ob none (p1 + 16) 1 = true := by rcases isP_or h with rfl | rfl <;> rfl
theorem shP_16 {p1 : Nat} (h : ax_isP p1 = true) : (ax_SH (p1 + 16)).2 = 3 := by rcases isP_or h with rfl | rfl <;> rfl
theorem obP_17 {p1 : Nat} (h : ax_isP p1 = true) : ax_ob none (p1 + 17) 2 = true := by rcases isP_or h with rfl | rfl <;> rfl
theorem shP_17 {p1 : Nat} (h : ax_isP p1 = true) : (ax_SH (p1 + 17)).2 = 7 := by rcases isP_or h with rfl | rfl <;> rfl
theorem obP_18 {p1 : Nat} (h : ax_isP p1 = true) : ax_ob none (p1 + 18) 2 = true := by rcases isP_or h with rfl | rfl <;> rfl
theorem shP_18 {p1 : Nat} (h : ax_isP p1 = true) : (ax_SH (p1 + 18)).2 = 64 := by rcases isP_or h with rfl | rfl <;> rfl
theorem obP_20 {p1 : Nat} (h : ax_isP p1 = true) : ax_ob none (p1 + 20) 0 = true := by rcases isP_or h with rfl | rfl <;> rfl
theorem shP_20 {p1 : Nat} (h : ax_isP p1 = true) : (ax_SH (p1 + 20)).2 = 9 := by rcases isP_or h with rfl | rfl <;> rfl
theorem rdP_20 {mi : Nat → Nat → Int32} {ml : Nat → Nat → Int64} {mr : Nat → Nat → Nat} {x : Int32} {p1 : Nat} (h : ax_isP p1 = true) : ax_rd (none, mi, ml, mr) (p1 + 20) x = vp_in x 9 := by rcases isP_or h with rfl | rfl <;> exact propext ⟨fun h => h.elim (fun h => h.2.2) (fun h => absurd h.1 (by decide)), fun h => Or.inl ⟨by decide, rfl, h⟩⟩
theorem obP_22 {p1 : Nat} (h : ax_isP p1 = true) : ax_ob none (p1 + 22) 0 = true := by rcases isP_or h with rfl | rfl <;> rfl
theorem shP_22 {p1 : Nat} (h : ax_isP p1 = true) : (ax_SH (p1 + 22)).2 = 9 := by rcases isP_or h with rfl | rfl <;> rfl
theorem rdP_22 {mi : Nat → Nat → Int32} {ml : Nat → Nat → Int64} {mr : Nat → Nat → Nat} {x : Int32} {p1 : Nat} (h : ax_isP p1 = true) : ax_rd (none, mi, ml, mr) (p1 + 22) x = vp_in x 9 := by rcases isP_or h with rfl | rfl <;> exact propext ⟨fun h => h.elim (fun h => h.2.2) (fun h => absurd h.1 (by decide)), fun h => Or.inl ⟨by decide, rfl, h⟩⟩
theorem obP_24 {p1 : Nat} (h : ax_isP p1 = true) : ax_ob none (p1 + 24) 0 = true := by rcases isP_or h with rfl | rfl <;> rfl
theorem shP_24 {p1 : Nat} (h : ax_isP p1 = true) : (ax_SH (p1 + 24)).2 = 9 := by rcases isP_or h with rfl | rfl <;> rfl
theorem rdP_24 {mi : Nat → Nat → Int32} {ml : Nat → Nat → Int64} {mr : Nat → Nat → Nat} {x : Int32} {p1 : Nat} (h : ax_isP p1 = true) : ax_rd (none, mi, ml, mr) (p1 + 24) x = vp_in x 9 := by rcases isP_or h with rfl | rfl <;> exact propext ⟨fun h => h.elim (fun h => h.2.2) (fun h => absurd h.1 (by decide)), fun h => Or.inl ⟨by decide, rfl, h⟩⟩
theorem obP_25 {p1 : Nat} (h : ax_isP p1 = true) : ax_ob none (p1 + 25) 1 = true := by rcases isP_or h with rfl | rfl <;> rfl
theorem shP_25 {p1 : Nat} (h : ax_isP p1 = true) : (ax_SH (p1 + 25)).2 = 7 := by rcases isP_or h with rfl | rfl <;> rfl
theorem obP_26 {p1 : Nat} (h : ax_isP p1 = true) : ax_ob none (p1 + 26) 1 = true := by rcases isP_or h with rfl | rfl <;> rfl
theorem shP_26 {p1 : Nat} (h : ax_isP p1 = true) : (ax_SH (p1 + 26)).2 = 3 := by rcases isP_or h with rfl | rfl <;> rfl
def ax_isN (q1 : Nat) : Bool := (q1 == 29) || (q1 == 31) || (q1 == 33) || (q1 == 73) || (q1 == 75) || (q1 == 77)
theorem isN_or {q1 : Nat} (h : ax_isN q1 = true) : q1 = 29 ∨ q1 = 31 ∨ q1 = 33 ∨ q1 = 73 ∨ q1 = 75 ∨ q1 = 77 := by simpa [ax_isN, or_assoc] using h
theorem isN_29 : ax_isN 29 = true := Eq.trans rfl rfl
theorem isN_31 : ax_isN 31 = true := Eq.trans rfl rfl
theorem isN_33 : ax_isN 33 = true := Eq.trans rfl rfl
theorem isN_73 : ax_isN 73 = true := Eq.trans rfl rfl
theorem isN_75 : ax_isN 75 = true := Eq.trans rfl rfl
theorem isN_77 : ax_isN 77 = true := Eq.trans rfl rfl
theorem rN_0 {L P S a b c q1 : Nat} (h : ax_isN q1 = true) : rf_ L P S a b c q1 0 = q1 + 1 := by rcases isN_or h with rfl | rfl | rfl | rfl | rfl | rfl <;> rfl
theorem obN {q1 : Nat} (h : ax_isN q1 = true) : ax_ob none q1 5 = true := by rcases isN_or h with rfl | rfl | rfl | rfl | rfl | rfl <;> rfl
theorem obN_1 {q1 : Nat} (h : ax_isN q1 = true) : ax_ob none (q1 + 1) 0 = true := by rcases isN_or h with rfl | rfl | rfl | rfl | rfl | rfl <;> rfl
theorem ax_up_ap {α : Type} (f : Nat → Nat → α) (k j : Nat) (v : α) (k' j' : Nat) : ax_up f k j v k' j' = if k' = k then (if j' = j then v else f k' j') else f k' j' := Eq.trans rfl rfl
theorem ax_down {P : Nat → Prop} {n : Nat} (h0 : P n) (hs : ∀ k, k < n → P (k + 1) → P k) : P 0 := by
  have : ∀ m, m ≤ n → P (n - m) := by
    intro m
    induction m with
    | zero => intro _; exact h0
    | succ m ih =>
      intro hm
      have h1 := ih (by omega)
      rw [show n - m = (n - (m + 1)) + 1 by omega] at h1
      exact hs _ (by omega) h1
  have h2 := this n (Nat.le_refl n)
  rwa [Nat.sub_self] at h2
theorem ax_ge {a b : Nat} {A B : Prop} (ha : a < 2 ^ 31) (hb : b < 2 ^ 31) (h1 : b ≤ a → A) (h2 : a < b → B) : (nI b ≤ nI a → A) ∧ (¬ nI b ≤ nI a → B) :=
  ⟨fun h => h1 ((nI_leI hb ha).mp h), fun h => h2 (Nat.not_le.mp (fun q => h ((nI_leI hb ha).mpr q)))⟩
theorem ax_lt {a b : Nat} {A B : Prop} (ha : a < 2 ^ 31) (hb : b < 2 ^ 31) (h1 : a < b → A) (h2 : b ≤ a → B) : (nI a < nI b → A) ∧ (¬ nI a < nI b → B) :=
  ⟨fun h => h1 ((nI_ltI ha hb).mp h), fun h => h2 (Nat.not_lt.mp (fun q => h ((nI_ltI ha hb).mpr q)))⟩
theorem ax_i1 (k : Nat) : nI k + 1 = nI (k + 1) := nI_1 k
theorem ax_z0 : (0 : Int32) = nI 0 := nI_0.symm
