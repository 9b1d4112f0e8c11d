/-! Model.word: its String -/
def wmB : List Nat := [104, 111, 117, 115, 101, 32, 112, 101, 114, 115, 111, 110, 32, 99, 111, 97, 116, 32, 100, 105, 115, 104, 32, 100, 111, 103, 32, 119, 105, 110, 100, 32, 116, 97, 120, 32, 115, 101, 101, 100, 32, 108, 97, 119, 32, 115, 109, 101, 108, 108, 32, 110, 111, 115, 101, 32, 100, 117, 101, 32, 111, 114, 32, 97, 110, 100, 32, 110, 111, 116, 32, 102, 111, 114, 99, 101, 32, 107, 105, 110, 100, 32, 104, 101, 97, 100, 115, 32, 97, 105, 114, 32, 112, 108, 97, 99, 101, 32, 121, 101, 97, 114, 32]
def wm_ (j : Nat) : Nat := wmB.getD j 0
/-- what is outside: the String of Model.word is cell 3 -/
def wm_ok (E : ax_E) : Prop := jk_ E 3 103 wm_ ∧ ∀ (U : State) (H : Heap), E.2.2.2.2.2 U H → vk_R "NoseCensusModel" 200 "house person coat dish dog wind tax seed law smell nose due or and not force kind heads air place year " (ax_ad E 3) U
theorem wM_len : ax_wk (7, 51) (.methodLink "NoseCensusModel" 202 yS_length) = true := by decide +kernel
theorem wM_chr : ax_wk (7, 52) (.methodLink "NoseCensusModel" 207 yS_charAt) = true := by decide +kernel
theorem wS_b1 : ax_wk (2, 43) (.instanceMethod yS_length) = true ∧ ax_wk (2, 44) (.selects "java/lang/String" yS_length yS_length) = true ∧ ax_wk (2, 45) (.code yS_length cS_length 1 (some .int)) = true := by decide +kernel
theorem wS_b2 : ax_wk (2, 53) (.instanceMethod yS_charAt) = true ∧ ax_wk (2, 54) (.selects "java/lang/String" yS_charAt yS_charAt) = true ∧ ax_wk (2, 55) (.code yS_charAt cS_charAt 2 (some .char)) = true := by decide +kernel
section WRD
variable {E : ax_E} {l : Launch} {d : Nat} {Ret : Option ax_V → ax_M → Prop} {pc : Nat} {ls : ax_L} {st : List ax_V} {M : ax_M}
theorem t_wldc (hw : wm_ok E) (hd : decode (ax_mu m_Model_word).2.1 pc = .ok (.ldc 200, 2)) (h : ax_T E l d m_Model_word Ret (pc + 2) ls (.inr (.inr 3) :: st) M 0 0) : ax_T E l d m_Model_word Ret pc ls st M 0 0 := by
  intro p e s m args below meth c X hr hn H locs la h1 h2 h3 h4
  have k := h p e s m args below meth c X hr hn H locs la h1 h2 h3 h4
  have hown : s.vm.findClass "NoseCensusModel" = some m.cls := X.2.2.2.1
  exact va_ldcS X.1 X.2.1 hown (hw.2 s H h2) hd k
theorem t_wlen (hok : ax_Xok E) (hw : wm_ok E) (hst : ax_sz st ≤ 8) (hd : decode (ax_mu m_Model_word).2.1 pc = .ok (.invokevirtual 202, 3)) (h : ax_T E l (d + 1) m_Model_word Ret (pc + 3) ls (.inl (nI 103) :: st) M 0 0) : ax_T E l (d + 1) m_Model_word Ret pc ls (.inr (.inr 3) :: st) M 0 0 := by
  intro p e s m args below meth c X hr hn
  exact j_callV (show jX_ _ _ _ _ _ _ _ _ _ "NoseCensusModel" _ _ from X) (u := uS_length) (n := 0) (by decide) (ax_wk_mem wS_b1.2.2) (ax_wk_mem wM_len) (ax_wk_mem wS_i0) (ax_wk_mem wS_b1.1) (ax_wk_mem wS_b1.2.1) (by decide +kernel) (by decide) (fun U H hX => (hw.1.2.2.2.2 U H hX).2.1) (as := []) (rest := st) rfl hst ⟨Nat.zero_le _, Nat.zero_le _⟩ ((j_length hok hw.1).mono (fun v M' hvM => by
    obtain ⟨rfl, rfl⟩ := hvM
    exact h p e s m args below meth c X hr hn)) hd
theorem t_wchr (hok : ax_Xok E) (hw : wm_ok E) (hst : ax_sz st ≤ 8) {a : Nat} (ha : a < 103) (hd : decode (ax_mu m_Model_word).2.1 pc = .ok (.invokevirtual 207, 3)) (h : ax_T E l (d + 3) m_Model_word Ret (pc + 3) ls (.inl (nI (wm_ a)) :: st) M 0 0) : ax_T E l (d + 3) m_Model_word Ret pc ls (.inl (nI a) :: .inr (.inr 3) :: st) M 0 0 := by
  intro p e s m args below meth c X hr hn
  exact j_callV (show jX_ _ _ _ _ _ _ _ _ _ "NoseCensusModel" _ _ from X) (u := uS_charAt) (n := 1) (by decide) (ax_wk_mem wS_b2.2.2) (ax_wk_mem wM_chr) (ax_wk_mem wS_i0) (ax_wk_mem wS_b2.1) (ax_wk_mem wS_b2.2.1) (by decide +kernel) (by decide) (fun U H hX => (hw.1.2.2.2.2 U H hX).2.1) (as := [.inl (nI a)]) (rest := st) rfl hst ⟨Nat.zero_le _, Nat.zero_le _⟩ ((j_charAt hok hw.1 ha).mono (fun v M' hvM => by
    obtain ⟨rfl, rfl⟩ := hvM
    exact h p e s m args below meth c X hr hn)) hd
end WRD
