/-! String.charAt -/
section STC
variable {E : ax_E} {l : Launch} {d : Nat} {M : ax_M} {k N : Nat} {f : Nat → Nat}
theorem j_pre (hok : ax_Xok E) {a b z : Nat} (hab : a < b) (hb31 : b < 2 ^ 31) : ju_C E l d uS_preIndex [.inl (nI a), .inl (nI b), .inr (.inr z)] M (fun v M' => v = some (.inl (nI a)) ∧ M' = M) := by
  refine ju_intro0 hok (by decide) (Nat.le_refl 3) ?_
  intro p e s m args below meth c la X hr hS hl
  obtain ⟨hx, hb, hml, hown, hts, hK, -, hlk, hB⟩ := id X
  have hv : va_S (ax_A E) s.heap s.heap [] := va_S.rf
  have hl0 : la[0]? = some (.val (.int (nI a))) := ax_lv_at (v := .inl (nI a)) hl rfl
  have hl1 : la[1]? = some (.val (.int (nI b))) := ax_lv_at (v := .inl (nI b)) hl rfl
  refine lv_iload_n (i := 0) hx hb (show decode cS_preIndex 0 = .ok (.iload_n 0, 1) by decide +kernel) rfl hl0 ?_
  refine lv_if_lt (tgt := 9) hx hb (show decode cS_preIndex 1 = .ok (.ifCond .lt 8, 3) by decide +kernel) (by decide) (fun q => absurd q (nI_pos (by omega))) (fun _ => ?_)
  refine lv_iload_n (i := 0) hx hb (show decode cS_preIndex 4 = .ok (.iload_n 0, 1) by decide +kernel) rfl hl0 ?_
  refine lv_iload_n (i := 1) hx hb (show decode cS_preIndex 5 = .ok (.iload_n 1, 1) by decide +kernel) rfl hl1 ?_
  refine lv_icmp_lt (tgt := 16) hx hb (show decode cS_preIndex 6 = .ok (.if_icmp .lt 10, 3) by decide +kernel) (by decide) (fun _ => ?_) (fun q => absurd (nI_lt hab hb31) q)
  refine lv_iload_n (i := 0) hx hb (show decode cS_preIndex 16 = .ok (.iload_n 0, 1) by decide +kernel) rfl hl0 ?_
  exact W.zret hx hb hr rfl (fun t ht hW => ⟨⟨some (.inl (nI a)), M, rfl, ⟨rfl, rfl⟩, ju_end X hS ht hW⟩, hv.F ht⟩) (fun q h => hv.2.2 q h) (show decode cS_preIndex 17 = .ok (.ireturn, 1) by decide +kernel) hlk
theorem j_check (hok : ax_Xok E) (hk : jk_ E k N f) {a b : Nat} (hab : a < b) (hb31 : b < 2 ^ 31) : ju_C E l (d + 1) uS_checkIndex [.inl (nI a), .inl (nI b)] M (fun v M' => v = none ∧ M' = M) := by
  refine ju_intro hok (by decide) (Nat.le_refl 2) ?_
  intro p e s m args below meth c la X hr hS hl
  obtain ⟨hx, hb, hml, hown, hts, hK, -, hlk, hB, hR⟩ := id X
  obtain ⟨z, hz⟩ := hk.2.2.2.1
  have hv : va_S (ax_A E) s.heap s.heap [] := va_S.rf
  have hl0 : la[0]? = some (.val (.int (nI a))) := ax_lv_at (v := .inl (nI a)) hl rfl
  have hl1 : la[1]? = some (.val (.int (nI b))) := ax_lv_at (v := .inl (nI b)) hl rfl
  refine lv_iload_n (i := 0) hx hb (show decode cS_checkIndex 0 = .ok (.iload_n 0, 1) by decide +kernel) rfl hl0 ?_
  refine lv_iload_n (i := 1) hx hb (show decode cS_checkIndex 1 = .ok (.iload_n 1, 1) by decide +kernel) rfl hl1 ?_
  refine va_gets hx hb (hz s s.heap hS.2.2.1) hv hown (hts _ (ax_wk_mem wS_sio)) (fun x h => h) (show decode cS_checkIndex 2 = .ok (.getstatic 1053, 3) by decide +kernel) ?_
  have Xj : jX_ E p (ax_rm (d + 1) 0 0) s m args meth c cS_checkIndex "java/lang/String" 2 d := X
  exact j_callS Xj (l := l) (e := e) (below := below) (Q := MQ below (ax_Q E (fun v M' => v = none ∧ M' = M)) args s 0 0 (ax_A E)) (ls := ax_ent [.inl (nI a), .inl (nI b)]) (kc := 0) (ks := 0) (pc := 5) (M := M) (u := uS_preIndex) (idx := 1059) (n := 3) (by decide) (ax_wk_mem wS_a5.2.2) (ax_wk_mem wS_a5.1) (ax_wk_mem wS_i2) (ax_wk_mem wS_a5.2.1) (by decide +kernel) (as := [.inl (nI a), .inl (nI b), .inr (.inr z)]) (rest := []) rfl (by decide) ⟨Nat.le_refl 0, Nat.le_refl 0⟩ ((j_pre (d := d) hok hab hb31).mono (fun v M' hvM => by
    obtain ⟨rfl, rfl⟩ := hvM
    intro H locs la g1 g2 g3 g4
    refine lv_pop hx hb (show decode cS_checkIndex 8 = .ok (.pop, 1) by decide +kernel) rfl ?_
    exact W.vret hx hb hr (fun t ht hW => ⟨⟨none, M', rfl, ⟨rfl, rfl⟩, j_S_end Xj g1 g2 g3 ht hW⟩, g3.F ht⟩) (fun q h => g3.2.2 q h) (show decode cS_checkIndex 9 = .ok (.return_, 1) by decide +kernel) hlk)) (show decode cS_checkIndex 5 = .ok (.invokestatic 1059, 3) by decide +kernel) s.heap [] la hS.1 hS.2.2.1 hv hl
end STC
