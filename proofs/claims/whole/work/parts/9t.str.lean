/-! String.charAt, ended -/
theorem ch_ok : ∀ n, n < 128 → nI n &&& 255 = nI n ∧ ((nI n).toUInt32 % 65536).toInt32 = nI n := by decide +kernel
theorem ch_nar : ∀ n, n < 128 → narrow .char (.int (nI n)) = .int (nI n) := by decide +kernel
section STD
variable {E : ax_E} {l : Launch} {d : Nat} {M : ax_M} {k N : Nat} {f : Nat → Nat}
theorem j_e2 (hk : jk_ E k N f) : ax_cv E (.inr (.inr (k + 2))) = .ref (ax_ad E (k + 2)) := by
  show ax_rv E (k + 2) = _
  unfold ax_rv
  rw [if_neg (by omega)]
theorem j_latinAt (hok : ax_Xok E) (hk : jk_ E k N f) {a : Nat} (ha : a < N) : ju_C E l (d + 2) uS_latinAt [.inr (.inr (k + 2)), .inl (nI a)] M (fun v M' => v = some (.inl (nI (f a))) ∧ M' = M) := by
  refine ju_intro hok (by decide) (Nat.le_refl 2) ?_
  intro p e s m args below meth c la X hr hS hl
  obtain ⟨hx, hb, hml, hown, hts, hK, -, hlk, hB, hR⟩ := id X
  obtain ⟨hZ, h1, h2, h3, h4⟩ := hk.2.2.2.2 s s.heap hS.2.2.1
  have hN := hk.2.1
  have hfa := hk.2.2.1 a ha
  have cl : (nI a).toNatClampNeg = a := nI_clamp (by omega)
  have hv : va_S (ax_A E) s.heap s.heap [] := va_S.rf
  have hl0 : la[0]? = some (.val (.ref (ax_ad E (k + 2)))) := by rw [← j_e2 hk]; exact ax_lv_at hl rfl
  have hl1 : la[1]? = some (.val (.int (nI a))) := ax_lv_at (v := .inl (nI a)) hl rfl
  refine lv_iload_n (i := 1) hx hb (show decode cS_latinAt 0 = .ok (.iload_n 1, 1) by decide +kernel) rfl hl1 ?_
  refine lv_aload_n (i := 0) hx hb (show decode cS_latinAt 1 = .ok (.aload_n 0, 1) by decide +kernel) rfl hl0 ?_
  refine va_tlen hx hb h4 hv (v := nI N) rfl (show decode cS_latinAt 2 = .ok (.arraylength, 1) by decide +kernel) ?_
  have Xj : jX_ E p (ax_rm (d + 1 + 1) 0 0) s m args meth c cS_latinAt "java/lang/StringLatin1" 2 (d + 1) := X
  exact j_callS Xj (l := l) (e := e) (below := below) (Q := MQ below (ax_Q E (fun v M' => v = some (.inl (nI (f a))) ∧ M' = M)) args s 0 0 (ax_A E)) (ls := ax_ent [.inr (.inr (k + 2)), .inl (nI a)]) (kc := 0) (ks := 0) (pc := 3) (M := M) (u := uS_checkIndex) (idx := 9) (n := 2) (by decide) (ax_wk_mem wS_a4.2.2) (ax_wk_mem wS_a4.1) (ax_wk_mem wS_i0) (ax_wk_mem wS_a4.2.1) (by decide +kernel) (as := [.inl (nI a), .inl (nI N)]) (rest := []) rfl (by decide) ⟨Nat.le_refl 0, Nat.le_refl 0⟩ ((j_check (d := d) hok hk ha hN).mono (fun v M' hvM => by
    obtain ⟨rfl, rfl⟩ := hvM
    intro H locs la g1 g2 g3 g4
    have hl0 : la[0]? = some (.val (.ref (ax_ad E (k + 2)))) := by rw [← j_e2 hk]; exact ax_lv_at g4 rfl
    have hl1 : la[1]? = some (.val (.int (nI a))) := ax_lv_at (v := .inl (nI a)) g4 rfl
    refine lv_aload_n (i := 0) hx hb (show decode cS_latinAt 6 = .ok (.aload_n 0, 1) by decide +kernel) rfl hl0 ?_
    refine lv_iload_n (i := 1) hx hb (show decode cS_latinAt 7 = .ok (.iload_n 1, 1) by decide +kernel) rfl hl1 ?_
    refine va_tb hx hb h4 g3 (i := nI a) (v := .int (nI (f a))) (vp_in_nI ha hN) (by rw [cl]) (show decode cS_latinAt 8 = .ok (.baload, 1) by decide +kernel) ?_
    refine lv_sipush hx hb (show decode cS_latinAt 9 = .ok (.sipush 255, 3) by decide +kernel) (show _ = (255 : Int32) by decide) ?_
    refine lv_iand hx hb (show decode cS_latinAt 12 = .ok (.iand, 1) by decide +kernel) ?_
    rw [(ch_ok (f a) hfa).1]
    refine lv_i2c hx hb (v := nI (f a)) (show decode cS_latinAt 13 = .ok (.i2c, 1) by decide +kernel) (ch_ok (f a) hfa).2 ?_
    exact W.zret hx hb hr (ch_nar (f a) hfa) (fun t ht hW => ⟨⟨some (.inl (nI (f a))), M', rfl, ⟨rfl, rfl⟩, j_S_end Xj g1 g2 g3 ht hW⟩, g3.F ht⟩) (fun q h => g3.2.2 q h) (show decode cS_latinAt 14 = .ok (.ireturn, 1) by decide +kernel) hlk)) (show decode cS_latinAt 3 = .ok (.invokestatic 9, 3) by decide +kernel) s.heap [] la hS.1 hS.2.2.1 hv hl
theorem j_charAt (hok : ax_Xok E) (hk : jk_ E k N f) {a : Nat} (ha : a < N) : ju_C E l (d + 3) uS_charAt [.inr (.inr k), .inl (nI a)] M (fun v M' => v = some (.inl (nI (f a))) ∧ M' = M) := by
  refine ju_intro hok (by decide) (Nat.le_refl 2) ?_
  intro p e s m args below meth c la X hr hS hl
  obtain ⟨hx, hb, hml, hown, hts, hK, -, hlk, hB, hR⟩ := id X
  obtain ⟨hZ, h1, h2, h3, h4⟩ := hk.2.2.2.2 s s.heap hS.2.2.1
  have hfa := hk.2.2.1 a ha
  have hv : va_S (ax_A E) s.heap s.heap [] := va_S.rf
  have hl0 : la[0]? = some (.val (.ref (ax_ad E k))) := by rw [← j_e0 hk]; exact ax_lv_at hl rfl
  refine lv_aload_n (i := 0) hx hb (show decode cS_charAt 0 = .ok (.aload_n 0, 1) by decide +kernel) rfl hl0 ?_
  have Xj : jX_ E p (ax_rm (d + 2 + 1) 0 0) s m args meth c cS_charAt "java/lang/String" 2 (d + 2) := X
  have g := j_callV Xj (l := l) (e := e) (below := below) (Q := MQ below (ax_Q E (fun v M' => v = some (.inl (nI (f a))) ∧ M' = M)) args s 0 0 (ax_A E)) (ls := ax_ent [.inr (.inr k), .inl (nI a)]) (kc := 0) (ks := 0) (pc := 1) (M := M) (u := uS_isLatin1) (idx := 492) (n := 0) (k := k) (by decide) (ax_wk_mem wS_a2.2.2.2) (ax_wk_mem wS_a2.1) (ax_wk_mem wS_i0) (ax_wk_mem wS_a2.2.1) (ax_wk_mem wS_a2.2.2.1) (by decide +kernel) (by rcases hk.1 with h | h <;> omega) (fun U H hX => (hk.2.2.2.2 U H hX).2.1) (as := []) (rest := []) rfl (by decide) ⟨Nat.le_refl 0, Nat.le_refl 0⟩ ((j_isLatin1 (d := d + 2) hok hk).mono (fun v M' hvM => by
    obtain ⟨rfl, rfl⟩ := hvM
    intro H locs la g1 g2 g3 g4
    have hl0 : la[0]? = some (.val (.ref (ax_ad E k))) := by rw [← j_e0 hk]; exact ax_lv_at g4 rfl
    have hl1 : la[1]? = some (.val (.int (nI a))) := ax_lv_at (v := .inl (nI a)) g4 rfl
    refine lv_if_eq (tgt := 16) hx hb (show decode cS_charAt 4 = .ok (.ifCond .eq 12, 3) by decide +kernel) (by decide) (fun q => absurd q (by decide)) (fun _ => ?_)
    refine lv_aload_n (i := 0) hx hb (show decode cS_charAt 7 = .ok (.aload_n 0, 1) by decide +kernel) rfl hl0 ?_
    refine vk_getf hx hb h3 g3 hown (hts _ (ax_wk_mem wS_value)) (fun x h => h) (show decode cS_charAt 8 = .ok (.getfield 9, 3) by decide +kernel) ?_
    refine lv_iload_n (i := 1) hx hb (show decode cS_charAt 11 = .ok (.iload_n 1, 1) by decide +kernel) rfl hl1 ?_
    have g5 := j_callS Xj (l := l) (e := e) (below := below) (Q := MQ below (ax_Q E (fun v M'' => v = some (.inl (nI (f a))) ∧ M'' = M')) args s 0 0 (ax_A E)) (ls := ax_ent [.inr (.inr k), .inl (nI a)]) (kc := 0) (ks := 0) (pc := 12) (M := M') (u := uS_latinAt) (idx := 495) (n := 2) (by decide) (ax_wk_mem wS_a3.2.2) (ax_wk_mem wS_a3.1) (ax_wk_mem wS_i1) (ax_wk_mem wS_a3.2.1) (by decide +kernel) (as := [.inr (.inr (k + 2)), .inl (nI a)]) (rest := []) rfl (by decide) ⟨Nat.le_refl 0, Nat.le_refl 0⟩ ((j_latinAt (d := d) hok hk ha).mono (fun v M'' hvM => by
      obtain ⟨rfl, rfl⟩ := hvM
      intro H locs la g1 g2 g3 g4
      exact W.zret hx hb hr (ch_nar (f a) hfa) (fun t ht hW => ⟨⟨some (.inl (nI (f a))), M'', rfl, ⟨rfl, rfl⟩, j_S_end Xj g1 g2 g3 ht hW⟩, g3.F ht⟩) (fun q h => g3.2.2 q h) (show decode cS_charAt 15 = .ok (.ireturn, 1) by decide +kernel) hlk)) (show decode cS_charAt 12 = .ok (.invokestatic 495, 3) by decide +kernel) H locs la g1 g2 g3 g4
    have e2 : ([.inr (.inr (k + 2)), .inl (nI a)].reverse ++ [] : List ax_V).map (ax_cv E) = [.int (nI a), .ref (ax_ad E (k + 2))] := by rw [← j_e2 hk]; rfl
    rw [e2] at g5
    exact g5)) (show decode cS_charAt 1 = .ok (.invokevirtual 492, 3) by decide +kernel) s.heap [] la hS.1 hS.2.2.1 hv hl
  have e1 : ([].reverse ++ .inr (.inr k) :: [] : List ax_V).map (ax_cv E) = [.ref (ax_ad E k)] := by rw [← j_e0 hk]; rfl
  rw [e1] at g
  exact g
end STD
