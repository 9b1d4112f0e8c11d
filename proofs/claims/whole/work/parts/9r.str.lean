/-! String.length, String.isLatin1 -/
theorem ju_C.mono {E : ax_E} {l : Launch} {d : Nat} {u : ax_U} {as : List ax_V} {M : ax_M} {Q Q' : Option ax_V → ax_M → Prop} (h : ju_C E l d u as M Q) (hq : ∀ r M', Q r M' → Q' r M') : ju_C E l d u as M Q' := by
  unfold ju_C Met at h ⊢
  exact MetFree.mono h (fun _ _ q => q) (fun _ _ _ _ _ q => q) (fun a s o t _ ⟨⟨⟨r, M', h1, h2, h3⟩, h4⟩, h5⟩ => ⟨⟨⟨r, M', h1, hq r M' h2, h3⟩, h4⟩, h5⟩)
theorem wS_i0 : ax_wk (1, 9) (.initialized "java/lang/String") = true := by decide +kernel
theorem wS_i1 : ax_wk (1, 10) (.initialized "java/lang/StringLatin1") = true := by decide +kernel
theorem wS_i2 : ax_wk (1, 11) (.initialized "jdk/internal/util/Preconditions") = true := by decide +kernel
theorem wS_a1 : ax_wk (2, 46) (.methodLink "java/lang/String" 335 yS_coder) = true ∧ ax_wk (2, 47) (.instanceMethod yS_coder) = true ∧ ax_wk (2, 48) (.selects "java/lang/String" yS_coder yS_coder) = true ∧ ax_wk (2, 49) (.code yS_coder cS_coder 1 (some .byte)) = true := by decide +kernel
theorem wS_a2 : ax_wk (2, 56) (.methodLink "java/lang/String" 492 yS_isLatin1) = true ∧ ax_wk (2, 57) (.instanceMethod yS_isLatin1) = true ∧ ax_wk (2, 58) (.selects "java/lang/String" yS_isLatin1 yS_isLatin1) = true ∧ ax_wk (2, 59) (.code yS_isLatin1 cS_isLatin1 1 (some .boolean)) = true := by decide +kernel
theorem wS_a3 : ax_wk (2, 60) (.methodLink "java/lang/String" 495 yS_latinAt) = true ∧ ax_wk (2, 61) (.static yS_latinAt) = true ∧ ax_wk (2, 62) (.code yS_latinAt cS_latinAt 2 (some .char)) = true := by decide +kernel
theorem wS_a4 : ax_wk (2, 63) (.methodLink "java/lang/StringLatin1" 9 yS_checkIndex) = true ∧ ax_wk (2, 64) (.static yS_checkIndex) = true ∧ ax_wk (2, 65) (.code yS_checkIndex cS_checkIndex 2 none) = true := by decide +kernel
theorem wS_a5 : ax_wk (2, 68) (.methodLink "java/lang/String" 1059 yS_preIndex) = true ∧ ax_wk (2, 69) (.static yS_preIndex) = true ∧ ax_wk (2, 70) (.code yS_preIndex cS_preIndex 3 (some .int)) = true := by decide +kernel
theorem wS_sio : ax_wk (2, 66) (.fieldLink "java/lang/String" 1053 "jdk/internal/util/Preconditions" "SIOOBE_FORMATTER" "Ljava/util/function/BiFunction;") = true := by decide +kernel
section STS
variable {E : ax_E} {l : Launch} {d : Nat} {M : ax_M} {k N : Nat} {f : Nat → Nat}
theorem j_e0 (hk : jk_ E k N f) : ax_cv E (.inr (.inr k)) = .ref (ax_ad E k) := by
  show ax_rv E k = _
  unfold ax_rv
  rw [if_neg (by rcases hk.1 with h | h <;> omega)]
theorem j_isLatin1 (hok : ax_Xok E) (hk : jk_ E k N f) : ju_C E l d uS_isLatin1 [.inr (.inr k)] M (fun v M' => v = some (.inl 1) ∧ M' = M) := by
  refine ju_intro0 hok (by decide) (Nat.le_refl 1) ?_
  intro p e s m args below meth c la X hr hS hl
  obtain ⟨hx, hb, hml, hown, hts, hK, -, hlk, hB⟩ := id X
  obtain ⟨hZ, h1, h2, h3, h4⟩ := hk.2.2.2.2 s s.heap hS.2.2.1
  have hv : va_S (ax_A E) s.heap s.heap [] := va_S.rf
  have hl0 : la[0]? = some (.val (.ref (ax_ad E k))) := by rw [← j_e0 hk]; exact ax_lv_at hl rfl
  refine va_gets hx hb hZ hv hown (hts _ (ax_wk_mem wS_compact)) (fun x h => h) (show decode cS_isLatin1 0 = .ok (.getstatic 38, 3) by decide +kernel) ?_
  refine lv_if_eq (tgt := 17) hx hb (show decode cS_isLatin1 3 = .ok (.ifCond .eq 14, 3) by decide +kernel) (by decide) (fun q => absurd q (by decide)) (fun _ => ?_)
  refine lv_aload_n (i := 0) hx hb (show decode cS_isLatin1 6 = .ok (.aload_n 0, 1) by decide +kernel) rfl hl0 ?_
  refine vk_getf hx hb h2 hv hown (hts _ (ax_wk_mem wS_coder)) (fun x h => h) (show decode cS_isLatin1 7 = .ok (.getfield 15, 3) by decide +kernel) ?_
  refine lv_if_ne (tgt := 17) hx hb (show decode cS_isLatin1 10 = .ok (.ifCond .ne 7, 3) by decide +kernel) (by decide) (fun q => absurd rfl q) (fun _ => ?_)
  refine lv_iconst hx hb (show decode cS_isLatin1 13 = .ok (.iconst 1, 1) by decide +kernel) rfl ?_
  refine lv_goto (tgt := 18) hx hb (show decode cS_isLatin1 14 = .ok (.goto 4, 3) by decide +kernel) (by decide) ?_
  exact W.zret hx hb hr rfl (fun t ht hW => ⟨⟨some (.inl 1), M, rfl, ⟨rfl, rfl⟩, ju_end X hS ht hW⟩, hv.F ht⟩) (fun q h => hv.2.2 q h) (show decode cS_isLatin1 18 = .ok (.ireturn, 1) by decide +kernel) hlk
theorem j_length (hok : ax_Xok E) (hk : jk_ E k N f) : ju_C E l (d + 1) uS_length [.inr (.inr k)] M (fun v M' => v = some (.inl (nI N)) ∧ M' = M) := by
  refine ju_intro hok (by decide) (Nat.le_refl 1) ?_
  intro p e s m args below meth c la X hr hS hl
  obtain ⟨hx, hb, hml, hown, hts, hK, -, hlk, hB, hR⟩ := id X
  obtain ⟨hZ, h1, h2, h3, h4⟩ := hk.2.2.2.2 s s.heap hS.2.2.1
  have hv : va_S (ax_A E) s.heap s.heap [] := va_S.rf
  have hl0 : la[0]? = some (.val (.ref (ax_ad E k))) := by rw [← j_e0 hk]; exact ax_lv_at hl rfl
  refine lv_aload_n (i := 0) hx hb (show decode cS_length 0 = .ok (.aload_n 0, 1) by decide +kernel) rfl hl0 ?_
  refine vk_getf hx hb h3 hv hown (hts _ (ax_wk_mem wS_value)) (fun x h => h) (show decode cS_length 1 = .ok (.getfield 9, 3) by decide +kernel) ?_
  refine va_tlen hx hb h4 hv (v := nI N) rfl (show decode cS_length 4 = .ok (.arraylength, 1) by decide +kernel) ?_
  refine lv_aload_n (i := 0) hx hb (show decode cS_length 5 = .ok (.aload_n 0, 1) by decide +kernel) rfl hl0 ?_
  have Xj : jX_ E p (ax_rm (d + 1) 0 0) s m args meth c cS_length "java/lang/String" 1 d := X
  have g := j_callV Xj (l := l) (e := e) (below := below) (Q := MQ below (ax_Q E (fun v M' => v = some (.inl (nI N)) ∧ M' = M)) args s 0 0 (ax_A E)) (ls := ax_ent [.inr (.inr k)]) (kc := 0) (ks := 0) (pc := 6) (M := M) (u := uS_coder) (idx := 335) (n := 0) (k := k) (by decide) (ax_wk_mem wS_a1.2.2.2) (ax_wk_mem wS_a1.1) (ax_wk_mem wS_i0) (ax_wk_mem wS_a1.2.1) (ax_wk_mem wS_a1.2.2.1) (by decide +kernel) (by rcases hk.1 with h | h <;> omega) (fun U H hX => (hk.2.2.2.2 U H hX).2.1) (as := []) (rest := [.inl (nI N)]) rfl (show 1 ≤ 8 by decide) ⟨Nat.le_refl 0, Nat.le_refl 0⟩ ((j_coder (d := d) hok hk).mono (fun v M' hvM => by
    obtain ⟨rfl, rfl⟩ := hvM
    intro H locs la g1 g2 g3 g4
    refine lv_ishr hx hb (show decode cS_length 9 = .ok (.ishr, 1) by decide +kernel) ?_
    exact W.zret hx hb hr rfl (fun t ht hW => ⟨⟨some (.inl (nI N)), M', by simp; rfl, ⟨rfl, rfl⟩, j_S_end Xj g1 g2 g3 ht hW⟩, g3.F ht⟩) (fun q h => g3.2.2 q h) (show decode cS_length 10 = .ok (.ireturn, 1) by decide +kernel) hlk)) (show decode cS_length 6 = .ok (.invokevirtual 335, 3) by decide +kernel) s.heap [] la hS.1 hS.2.2.1 hv hl
  have e1 : ([].reverse ++ .inr (.inr k) :: [.inl (nI N)] : List ax_V).map (ax_cv E) = [.ref (ax_ad E k), .int (nI N)] := by rw [← j_e0 hk]; rfl
  rw [e1] at g
  exact g
end STS
