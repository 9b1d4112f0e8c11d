/-! Tokens.<init>: its String -/
def wtB : List Nat := [102, 111, 114, 99, 101, 32, 107, 105, 110, 100, 32, 104, 101, 97, 100, 115, 32, 100, 105, 115, 104, 32, 97, 105, 114, 32, 112, 108, 97, 99, 101, 32, 121, 101, 97, 114, 32, 115, 109, 101, 108, 108, 32, 110, 111, 115, 101, 32, 100, 117, 101, 32, 111, 114, 32, 97, 110, 100, 32, 110, 111, 116, 32, 104, 111, 117, 115, 101, 32, 112, 101, 114, 115, 111, 110, 32, 99, 111, 97, 116, 32, 100, 111, 103, 32, 119, 105, 110, 100, 32, 116, 97, 120, 32, 115, 101, 101, 100, 32, 108, 97, 119, 32]
def wt_ (j : Nat) : Nat := wtB.getD j 0
/-- what is outside: the String of Tokens is cell 4 -/
def wt_ok (E : ax_E) : Prop := jk_ E 4 103 wt_ ∧ ∀ (U : State) (H : Heap), E.2.2.2.2.2 U H → vk_R "NoseCensus$Tokens" 18 "force kind heads dish air place year smell nose due or and not house person coat dog wind tax seed law " (ax_ad E 4) U
theorem wT_len : ax_wk (2, 42) (.methodLink "NoseCensus$Tokens" 20 yS_length) = true := by decide +kernel
theorem wT_chr : ax_wk (2, 52) (.methodLink "NoseCensus$Tokens" 26 yS_charAt) = true := by decide +kernel
section TWD
variable {E : ax_E} {l : Launch} {d : Nat} {Ret : Option ax_V → ax_M → Prop} {pc : Nat} {ls : ax_L} {st : List ax_V} {M : ax_M} {kc ks : Nat}
theorem t_tldc (hw : wt_ok E) (hd : decode (ax_mu m_Tokens_init).2.1 pc = .ok (.ldc 18, 2)) (h : ax_T E l d m_Tokens_init Ret (pc + 2) ls (.inr (.inr 4) :: st) M kc ks) : ax_T E l d m_Tokens_init Ret pc ls st M kc ks := by
  intro p e s m args below meth c X hr hn H locs la h1 h2 h3 h4
  have k := h p e s m args below meth c X hr hn H locs la h1 h2 h3 h4
  have hown : s.vm.findClass "NoseCensus$Tokens" = some m.cls := X.2.2.2.1
  exact va_ldcS X.1 X.2.1 hown (hw.2 s H h2) hd k
theorem t_tlen (hok : ax_Xok E) (hw : wt_ok E) (hst : ax_sz st ≤ 8) (hkk : kc ≤ 1 ∧ ks ≤ 21) (hd : decode (ax_mu m_Tokens_init).2.1 pc = .ok (.invokevirtual 20, 3)) (h : ax_T E l (d + 1) m_Tokens_init Ret (pc + 3) ls (.inl (nI 103) :: st) M kc ks) : ax_T E l (d + 1) m_Tokens_init Ret pc ls (.inr (.inr 4) :: st) M kc ks := by
  intro p e s m args below meth c X hr hn
  exact j_callV (show jX_ _ _ _ _ _ _ _ _ _ "NoseCensus$Tokens" _ _ from X) (u := uS_length) (n := 0) (by decide) (ax_wk_mem wS_b1.2.2) (ax_wk_mem wT_len) (ax_wk_mem wS_i0) (ax_wk_mem wS_b1.1) (ax_wk_mem wS_b1.2.1) (by decide +kernel) (by decide) (fun U H hX => (hw.1.2.2.2.2 U H hX).2.1) (as := []) (rest := st) rfl hst hkk ((j_length hok hw.1).mono (fun v M' hvM => by
    obtain ⟨rfl, rfl⟩ := hvM
    exact h p e s m args below meth c X hr hn)) hd
theorem t_tchr (hok : ax_Xok E) (hw : wt_ok E) (hst : ax_sz st ≤ 8) (hkk : kc ≤ 1 ∧ ks ≤ 21) {a : Nat} (ha : a < 103) (hd : decode (ax_mu m_Tokens_init).2.1 pc = .ok (.invokevirtual 26, 3)) (h : ax_T E l (d + 3) m_Tokens_init Ret (pc + 3) ls (.inl (nI (wt_ a)) :: st) M kc ks) : ax_T E l (d + 3) m_Tokens_init Ret pc ls (.inl (nI a) :: .inr (.inr 4) :: st) M kc ks := by
  intro p e s m args below meth c X hr hn
  exact j_callV (show jX_ _ _ _ _ _ _ _ _ _ "NoseCensus$Tokens" _ _ from X) (u := uS_charAt) (n := 1) (by decide) (ax_wk_mem wS_b2.2.2) (ax_wk_mem wT_chr) (ax_wk_mem wS_i0) (ax_wk_mem wS_b2.1) (ax_wk_mem wS_b2.2.1) (by decide +kernel) (by decide) (fun U H hX => (hw.1.2.2.2.2 U H hX).2.1) (as := [.inl (nI a)]) (rest := st) rfl hst hkk ((j_charAt hok hw.1 ha).mono (fun v M' hvM => by
    obtain ⟨rfl, rfl⟩ := hvM
    exact h p e s m args below meth c X hr hn)) hd
end TWD
