/-! the law's person -/
abbrev yLp : MethodName := ⟨"NoseCensusLaw", "person", "(LNoseCensus;II[J)I"⟩
abbrev hLp : List (Nat × Nat × Nat × Nat) := [(0, 10, 13, 13), (0, 10, 17, 15)]
def lp_ws : List Cond := Cond.codeWith yLp method_3_code 5 (some .int) hLp :: ax_gw
def lp_5 : List ax_I := [(.aload_n 3, 1, 3, 0, 0, 0, 0, 0), (.iconst 0, 1, 0, 0, 0, 0, 0, 0), (.aload_n 0, 1, 0, 0, 0, 0, 0, 0), (.iload_n 1, 1, 1, 0, 0, 0, 0, 0), (.iload_n 2, 1, 2, 0, 0, 0, 0, 0)]
theorem lp_5k : ax_ckl 12 5 0 false method_3_code lp_5 0 = true := by decide +kernel
theorem lp_d : decode method_3_code 13 = .ok (.astore 4, 2) ∧ decode method_3_code 15 = .ok (.iconst 1, 1) ∧ decode method_3_code 16 = .ok (.ireturn, 1) ∧ decode method_3_code 17 = .ok (.astore 4, 2) ∧ decode method_3_code 19 = .ok (.iconst 2, 1) ∧ decode method_3_code 20 = .ok (.ireturn, 1) := ⟨by decide +kernel, by decide +kernel, by decide +kernel, by decide +kernel, by decide +kernel, by decide +kernel⟩
def lpq_ (i : Nat → Nat → Int32) (lo : Nat → Nat → Int64) (L : Nat) (σ : sG) (x n : Int32) : Option ax_V → ax_M → Prop := fun r M' => r = some (.inl (pr_k σ.1.2.1 x n)) ∧ ∃ i' lo' P' S' b' c', M' = (none, i', lo', rf_ L P' S' (P' + 12) b' c') ∧ ax_isT b' = true ∧ ci_ σ i' P' S' ∧ (∀ r, (r < 8 ∨ 121 ≤ r) → i' r = i r) ∧ (∀ k, 121 ≤ k → k ≠ 165 → lo' k = lo k) ∧ (pr_k σ.1.2.1 x n = 0 → lo' 165 0 = (pr_v σ.1.2.2.2.1 σ.2.1.1.1 σ.1.2.1 x n).toInt64)
section LPM
variable {E : ax_E} {l : Launch} {d : Nat} {i : Nat → Nat → Int32} {lo : Nat → Nat → Int64} {L P S a b c t : Nat} {T : Nat → Nat → Int32} {H Pn C D : Nat} {Z : sp_L}
variable {p : Program} {e : Env} {s : State} {m : MethodId} {args : Array Value} {below : List Frame} {meth : Method} {c0 : Code} {σ : sG}
theorem lp_f {Q : Option ax_V → ax_M → Prop} (X : ax_X E p (ax_rm (d + 1) 1 6) s m args meth c0 method_3_code 12 5 d) (hr : meth.sig.returnType = some .int) {pc : Nat} {is : List ax_I} (hi : ax_find s_Lper pc = some is) {ls : ax_L} {st : List ax_V} {M : ax_M} {kc ks : Nat} (h : ax_wp (ax_C E l d) (ax_G E p l e (ax_rm (d + 1) 1 6) s m args below meth c0 5 (MQ below (ax_Q E Q) args s 1 6 (ax_A E))) Q 0 1 6 is pc ls st M kc ks) : ax_G E p l e (ax_rm (d + 1) 1 6) s m args below meth c0 5 (MQ below (ax_Q E Q) args s 1 6 (ax_A E)) pc ls st M kc ks :=
  ax_wpG X (rk := 0) (ini := false) (fun h => nomatch h) (fun _ _ _ _ _ _ _ _ hk hq hd => ax_g_iret X hr rfl hk hq hd) (fun _ _ _ _ _ _ h => nomatch h) (fun _ _ _ _ _ h => nomatch h) is (List.all_eq_true.mp k_Lper _ (ax_find_mem hi)) h
theorem lp_thr {M : ax_M} {cls : String} {x n : Int32} {Q : Option ax_V → ax_M → Prop} {k : Int32} {pc : Nat} (hM1 : M.1 = none) (hth : th_ok E) (X : ax_X E p (ax_rm (d + 1) 1 6) s m args meth c0 method_3_code 12 5 d) (hr : meth.sig.returnType = some .int)
    (hc : (c0.exceptionTable.toList.map (fun h => (h.startPc, h.endPc, h.handlerPc, h.catchType))) = hLp) (hpc : (cls = "java/lang/IndexOutOfBoundsException" ∧ pc = 13 ∧ k = 1) ∨ (cls = "java/util/NoSuchElementException" ∧ pc = 17 ∧ k = 2))
    (hM : MetFree l (ax_mu m_Face_person).1 (headSpec (ax_wy (ax_mu m_Face_person)) (ax_rm d 1 6)) (va_Pc (([.inr (.inr (8)), .inl (x), .inl (n)] : List ax_V).map (ax_cv E)) (ax_S E M)) (fun _ _ _ _ _ => True) (th_Q E M cls)) (hs0 : E.2.2.2.2.2 s s.heap) (hq : Q (some (.inl k)) M) :
    ax_G E p l e (ax_rm (d + 1) 1 6) s m args below meth c0 5 (MQ below (ax_Q E Q) args s 1 6 (ax_A E)) 0 [some (.inr (.inr (8))), some (.inl (x)), some (.inl (n)), some (.inr (.inr (165))), none] [] M 0 0 := by
  refine ax_wpG X (rk := 0) (ini := false) (Ret := fun _ _ => False) (fun h => nomatch h) (fun _ _ _ _ _ _ _ _ _ h _ => h.elim) (fun _ _ _ _ _ _ _ _ h _ => h.elim) (fun _ _ _ _ _ _ _ h _ => h.elim) lp_5 lp_5k ?_
  unfold lp_5
  simp only [x_nil, x_iconst, x_bipush, x_sipush, x_ldc, x_ldcw, x_lconst, x_ldc2, x_iload_n0, x_lload_n0, x_aload_n0, x_istore_n0, x_astore_n0, x_lstore_n0, x_iinc_0, x_iload_n1, x_lload_n1, x_aload_n1, x_istore_n1, x_astore_n1, x_lstore_n1, x_iinc_1, x_iload_n2, x_lload_n2, x_aload_n2, x_istore_n2, x_astore_n2, x_lstore_n2, x_iinc_2, x_iload_n3, x_lload_n3, x_aload_n3, x_istore_n3, x_astore_n3, x_lstore_n3, x_iinc_3, x_iload_4, x_lload_4, x_aload_4, x_istore_4, x_astore_4, x_lstore_4, x_iinc_4, x_iload_5, x_lload_5, x_aload_5, x_istore_5, x_astore_5, x_lstore_5, x_iinc_5, x_iload_6, x_lload_6, x_aload_6, x_istore_6, x_astore_6, x_lstore_6, x_iinc_6, x_iload_7, x_lload_7, x_aload_7, x_istore_7, x_astore_7, x_lstore_7, x_iinc_7, x_iload_8, x_lload_8, x_aload_8, x_istore_8, x_astore_8, x_lstore_8, x_iinc_8, x_iload_9, x_lload_9, x_aload_9, x_istore_9, x_astore_9, x_lstore_9, x_iinc_9, x_iload_10, x_lload_10, x_aload_10, x_istore_10, x_astore_10, x_lstore_10, x_iinc_10, x_iload_11, x_lload_11, x_aload_11, x_istore_11, x_astore_11, x_lstore_11, x_iinc_11, x_iload_12, x_lload_12, x_aload_12, x_istore_12, x_astore_12, x_lstore_12, x_iinc_12, x_iload_13, x_lload_13, x_aload_13, x_istore_13, x_astore_13, x_lstore_13, x_iinc_13, x_iadd, x_isub, x_imul, x_iand, x_ior, x_ixor, x_ishl, x_ishr, x_iushr, x_ladd, x_lsub, x_lmul, x_land, x_idiv, x_irem, x_ldiv, x_lrem, x_ineg, x_lneg, x_lcmp, x_i2l, x_l2i, x_dupi, x_dupr, x_dup2, x_popi, x_popr, x_goto, x_ifeq, x_ifne, x_iflt, x_ifge, x_ifgt, x_ifle, x_iceq, x_icne, x_iclt, x_icge, x_icgt, x_icle, x_tsw, x_lsw, x_iret, x_lret, x_ret, x_getr, x_geti0, x_geti1, x_puti, x_putz, x_putr, x_iald, x_bald, x_lald, x_iast, x_bast, x_last, x_alen0, x_alen1, x_new, x_newa, x_iv0, x_is0, x_ii0_2, x_ii0_4, x_iv1, x_is1, x_ii1_2, x_ii1_4, x_iv2, x_is2, x_ii2_2, x_ii2_4, x_iv3, x_is3, x_iv4, x_is4, x_iv5, x_is5, x_iv6, x_is6, x_iv7, x_is7, x_obj, x_copy, ax_il_i, ax_il_r, ax_il_n, ax_il_l, ax_sz_0, ax_sz_i, ax_sz_r, ax_sz_l, Nat.reduceAdd, Bool.false_eq_true, ↓reduceIte, true_and, and_true, Option.toList_some, Option.toList_none, List.nil_append, List.cons_append, Nat.reduceEqDiff, Nat.reduceLeDiff, Nat.le_refl, false_implies, implies_true, Nat.zero_le, Nat.add_zero, forall_const, Nat.reduceSub, Nat.succ_ne_zero, ne_eq, not_false_eq_true, reduceCtorEq, ie_10, ie_01, not_true_eq_false, not_false_eq_true, true_implies, false_implies, implies_true, and_self, and_true, true_and, true_or, or_true]
  intro H locs la h1 h2 h3 h4
  have e1 : ([.inl n, .inl x, .inr (.inr 8), .inl 0, .inr (.inr 165)] : List ax_V).map (ax_cv E) = [.int n, .int x, .ref (ax_ad E 8), .int 0, .ref (ax_ad E 165)] := by
    show [Value.int n, Value.int x, ax_rv E 8, Value.int 0, ax_rv E 165] = _
    rw [ax_rv_8 (by decide), ax_rv_8 (by decide)]
  rw [e1]
  obtain ⟨hx, hb, hml, hown, hts, hK, hok, hlk, hB, hR⟩ := id X
  obtain ⟨u0, sen, z1, z2, hX⟩ := hth
  refine lp_call hM1 X hM h1 h2 h3 h4.1 (fun T' xa ce locs' XT g1 g2 g3 p2 p3 p4 => ?_)
  have hpc' : (cls = "java/lang/IndexOutOfBoundsException" ∧ pc = 13) ∨ (cls = "java/util/NoSuchElementException" ∧ pc = 17) := by
    rcases hpc with ⟨q1, q2, -⟩ | ⟨q1, q2, -⟩
    · exact Or.inl ⟨q1, q2⟩
    · exact Or.inr ⟨q1, q2⟩
  obtain ⟨vm', hW', st⟩ := lp_find XT hown (hts _ (ax_wk_mem th_lk.1)) (hts _ (ax_wk_mem th_lk.2)) ((hX s s.heap hs0).2.2.2) hc (la := la) (st := [.int 0, .ref (ax_ad E 165)]) g1 g2 g3 hpc'
  have key : W p l e (ax_rm (d + 1) 1 6) s m args below meth c0 T'.heap locs' 1 6 (MQ below (ax_Q E Q) args s 1 6 (ax_A E)) (F0 m pc la [.ref xa]) := by
    have fin : ∀ (ls' : Array Slot) (pc' : Nat), decode method_3_code pc' = .ok (.ireturn, 1) → W p l e (ax_rm (d + 1) 1 6) s m args below meth c0 T'.heap locs' 1 6 (MQ below (ax_Q E Q) args s 1 6 (ax_A E)) (F0 m pc' ls' [.int k]) := fun ls' pc' hd =>
      W.zret hx hb hr rfl (fun t ht hW => ⟨⟨some (.inl k), M, rfl, hq, ax_S_end X p2 p3 p4 ht hW⟩, p4.F ht⟩) (fun q h => p4.2.2 q h) hd hlk
    rcases hpc with ⟨-, rfl, rfl⟩ | ⟨-, rfl, rfl⟩
    · refine lv_astore hx hb lp_d.1 h4 (show 4 < 5 by decide) rfl (fun ls' h' => ?_)
      refine lv_iconst hx hb lp_d.2.1 rfl ?_
      exact fin ls' _ lp_d.2.2.1
    · refine lv_astore hx hb lp_d.2.2.2.1 h4 (show 4 < 5 by decide) rfl (fun ls' h' => ?_)
      refine lv_iconst hx hb lp_d.2.2.2.2.1 rfl ?_
      exact fin ls' _ lp_d.2.2.2.2.2
  obtain ⟨t, a1, a2⟩ := key (T'.setVm vm') rfl (XT.noted hW')
  exact ⟨t, st t a1, a2⟩
theorem lp_g (hok : ax_Xok E) (hth : th_ok E) (hlf : l.stackTraces = false) (hb : ax_isT b = true) (hi : ci_ σ i P S) (hv : vi_ σ) {x n : Int32} (X : ax_X E p (ax_rm (d + 1810 + 1) 1 6) s m args meth c0 method_3_code 12 5 (d + 1810)) (hr : meth.sig.returnType = some .int) (hc : (c0.exceptionTable.toList.map (fun h => (h.startPc, h.endPc, h.handlerPc, h.catchType))) = hLp) (hs0 : E.2.2.2.2.2 s s.heap) :
    ax_G E p l e (ax_rm (d + 1810 + 1) 1 6) s m args below meth c0 5 (MQ below (ax_Q E (lpq_ i lo L σ x n)) args s 1 6 (ax_A E)) 0 [some (.inr (.inr (8))), some (.inl (x)), some (.inl (n)), some (.inr (.inr (165))), none] [] (none, i, lo, rf_ L P S (P + 12) b c) 0 0 := by
  obtain ⟨-, -, hT, hw, -⟩ := fh_o hb hi hv
  have h9 : σ.1.2.1 ≤ 9 := by
    obtain ⟨w1, w2, w3, w4⟩ := hw.1
    omega
  have same : ∀ k : Int32, pr_k σ.1.2.1 x n = k → ¬ k = 0 → lpq_ i lo L σ x n (some (.inl k)) (none, i, lo, rf_ L P S (P + 12) b c) := fun k hk h0 => ⟨by rw [hk], i, lo, P, S, b, c, rfl, hb, hi, fun _ _ => rfl, fun _ _ _ => rfl, fun h => absurd (hk.symm.trans h) h0⟩
  rcases ix_c x σ.1.2.1 (by omega) with hx | ⟨q, hq, hx, eq⟩
  · exact lp_thr (pc := 13) (k := 1) rfl hth X hr hc (Or.inl ⟨rfl, rfl, rfl⟩) (th_person1 (d := d + 1804) hok hth hlf hT.2.1 hx) hs0 (same 1 (by unfold pr_k; rw [hx]; rfl) (by decide))
  rcases ix_c n 5 (by decide) with hn | ⟨n', hn', -, en⟩
  · have hn2 : n.toInt < 0 ∨ 4 < n.toInt := by
      rcases ix_n hn with h | h
      · left
        have := Int32.lt_iff_toInt_lt.mp h
        simpa using this
      · right
        have := Int32.le_iff_toInt_le.mp h
        have e5 : (nI 5).toInt = 5 := by decide
        omega
    have hc2 : n < 0 ∨ ¬ n ≤ 4 := by
      rcases hn2 with h | h
      · left
        rw [Int32.lt_iff_toInt_lt]
        simpa using h
      · right
        rw [Int32.le_iff_toInt_le]
        have e4 : (4 : Int32).toInt = 4 := by decide
        omega
    exact lp_thr (pc := 17) (k := 2) rfl hth X hr hc (Or.inr ⟨rfl, rfl, rfl⟩) (th_person2 (d := d + 1804) hok hth hlf hT.2.1 hx hn2) hs0 (same 2 (by unfold pr_k; rw [hx, Option.elim_some, if_pos hc2]) (by decide))
  · subst eq; subst en
    have hk0 : pr_k σ.1.2.1 (nI q) (nI n') = 0 := by
      unfold pr_k
      rw [hx, Option.elim_some, if_neg]
      rintro (h | h)
      · exact nI_pos (by omega) h
      · exact h (nI_le (show n' ≤ 4 by omega) (by decide))
    refine lp_f X hr rfl ?_
    simp only [x_nil, x_iconst, x_bipush, x_sipush, x_ldc, x_ldcw, x_lconst, x_ldc2, x_iload_n0, x_lload_n0, x_aload_n0, x_istore_n0, x_astore_n0, x_lstore_n0, x_iinc_0, x_iload_n1, x_lload_n1, x_aload_n1, x_istore_n1, x_astore_n1, x_lstore_n1, x_iinc_1, x_iload_n2, x_lload_n2, x_aload_n2, x_istore_n2, x_astore_n2, x_lstore_n2, x_iinc_2, x_iload_n3, x_lload_n3, x_aload_n3, x_istore_n3, x_astore_n3, x_lstore_n3, x_iinc_3, x_iload_4, x_lload_4, x_aload_4, x_istore_4, x_astore_4, x_lstore_4, x_iinc_4, x_iload_5, x_lload_5, x_aload_5, x_istore_5, x_astore_5, x_lstore_5, x_iinc_5, x_iload_6, x_lload_6, x_aload_6, x_istore_6, x_astore_6, x_lstore_6, x_iinc_6, x_iload_7, x_lload_7, x_aload_7, x_istore_7, x_astore_7, x_lstore_7, x_iinc_7, x_iload_8, x_lload_8, x_aload_8, x_istore_8, x_astore_8, x_lstore_8, x_iinc_8, x_iload_9, x_lload_9, x_aload_9, x_istore_9, x_astore_9, x_lstore_9, x_iinc_9, x_iload_10, x_lload_10, x_aload_10, x_istore_10, x_astore_10, x_lstore_10, x_iinc_10, x_iload_11, x_lload_11, x_aload_11, x_istore_11, x_astore_11, x_lstore_11, x_iinc_11, x_iload_12, x_lload_12, x_aload_12, x_istore_12, x_astore_12, x_lstore_12, x_iinc_12, x_iload_13, x_lload_13, x_aload_13, x_istore_13, x_astore_13, x_lstore_13, x_iinc_13, x_iadd, x_isub, x_imul, x_iand, x_ior, x_ixor, x_ishl, x_ishr, x_iushr, x_ladd, x_lsub, x_lmul, x_land, x_idiv, x_irem, x_ldiv, x_lrem, x_ineg, x_lneg, x_lcmp, x_i2l, x_l2i, x_dupi, x_dupr, x_dup2, x_popi, x_popr, x_goto, x_ifeq, x_ifne, x_iflt, x_ifge, x_ifgt, x_ifle, x_iceq, x_icne, x_iclt, x_icge, x_icgt, x_icle, x_tsw, x_lsw, x_iret, x_lret, x_ret, x_getr, x_geti0, x_geti1, x_puti, x_putz, x_putr, x_iald, x_bald, x_lald, x_iast, x_bast, x_last, x_alen0, x_alen1, x_new, x_newa, x_iv0, x_is0, x_ii0_2, x_ii0_4, x_iv1, x_is1, x_ii1_2, x_ii1_4, x_iv2, x_is2, x_ii2_2, x_ii2_4, x_iv3, x_is3, x_iv4, x_is4, x_iv5, x_is5, x_iv6, x_is6, x_iv7, x_is7, x_obj, x_copy, ax_il_i, ax_il_r, ax_il_n, ax_il_l, ax_sz_0, ax_sz_i, ax_sz_r, ax_sz_l, Nat.reduceAdd, Bool.false_eq_true, ↓reduceIte, true_and, and_true, Option.toList_some, Option.toList_none, List.nil_append, List.cons_append, Nat.reduceEqDiff, Nat.reduceLeDiff, Nat.le_refl, false_implies, implies_true, Nat.zero_le, Nat.add_zero, forall_const, Nat.reduceSub, Nat.succ_ne_zero, ne_eq, not_false_eq_true, reduceCtorEq, ie_10, ie_01, not_true_eq_false, not_false_eq_true, true_implies, false_implies, implies_true, and_self, and_true, true_and, true_or, or_true]
    refine ⟨by decide, ?_⟩
    refine (k_person (d := d) hok hb hi hv hq (show n' ≤ 4 by omega)).mono ?_
    rintro v M' ⟨rfl, i', lo', P', S', b', c', rfl, g1, g2, g3, g4⟩
    simp only [x_nil, x_iconst, x_bipush, x_sipush, x_ldc, x_ldcw, x_lconst, x_ldc2, x_iload_n0, x_lload_n0, x_aload_n0, x_istore_n0, x_astore_n0, x_lstore_n0, x_iinc_0, x_iload_n1, x_lload_n1, x_aload_n1, x_istore_n1, x_astore_n1, x_lstore_n1, x_iinc_1, x_iload_n2, x_lload_n2, x_aload_n2, x_istore_n2, x_astore_n2, x_lstore_n2, x_iinc_2, x_iload_n3, x_lload_n3, x_aload_n3, x_istore_n3, x_astore_n3, x_lstore_n3, x_iinc_3, x_iload_4, x_lload_4, x_aload_4, x_istore_4, x_astore_4, x_lstore_4, x_iinc_4, x_iload_5, x_lload_5, x_aload_5, x_istore_5, x_astore_5, x_lstore_5, x_iinc_5, x_iload_6, x_lload_6, x_aload_6, x_istore_6, x_astore_6, x_lstore_6, x_iinc_6, x_iload_7, x_lload_7, x_aload_7, x_istore_7, x_astore_7, x_lstore_7, x_iinc_7, x_iload_8, x_lload_8, x_aload_8, x_istore_8, x_astore_8, x_lstore_8, x_iinc_8, x_iload_9, x_lload_9, x_aload_9, x_istore_9, x_astore_9, x_lstore_9, x_iinc_9, x_iload_10, x_lload_10, x_aload_10, x_istore_10, x_astore_10, x_lstore_10, x_iinc_10, x_iload_11, x_lload_11, x_aload_11, x_istore_11, x_astore_11, x_lstore_11, x_iinc_11, x_iload_12, x_lload_12, x_aload_12, x_istore_12, x_astore_12, x_lstore_12, x_iinc_12, x_iload_13, x_lload_13, x_aload_13, x_istore_13, x_astore_13, x_lstore_13, x_iinc_13, x_iadd, x_isub, x_imul, x_iand, x_ior, x_ixor, x_ishl, x_ishr, x_iushr, x_ladd, x_lsub, x_lmul, x_land, x_idiv, x_irem, x_ldiv, x_lrem, x_ineg, x_lneg, x_lcmp, x_i2l, x_l2i, x_dupi, x_dupr, x_dup2, x_popi, x_popr, x_goto, x_ifeq, x_ifne, x_iflt, x_ifge, x_ifgt, x_ifle, x_iceq, x_icne, x_iclt, x_icge, x_icgt, x_icle, x_tsw, x_lsw, x_iret, x_lret, x_ret, x_getr, x_geti0, x_geti1, x_puti, x_putz, x_putr, x_iald, x_bald, x_lald, x_iast, x_bast, x_last, x_alen0, x_alen1, x_new, x_newa, x_iv0, x_is0, x_ii0_2, x_ii0_4, x_iv1, x_is1, x_ii1_2, x_ii1_4, x_iv2, x_is2, x_ii2_2, x_ii2_4, x_iv3, x_is3, x_iv4, x_is4, x_iv5, x_is5, x_iv6, x_is6, x_iv7, x_is7, x_obj, x_copy, ax_il_i, ax_il_r, ax_il_n, ax_il_l, ax_sz_0, ax_sz_i, ax_sz_r, ax_sz_l, Nat.reduceAdd, Bool.false_eq_true, ↓reduceIte, true_and, and_true, Option.toList_some, Option.toList_none, List.nil_append, List.cons_append, Nat.reduceEqDiff, Nat.reduceLeDiff, Nat.le_refl, false_implies, implies_true, Nat.zero_le, Nat.add_zero, forall_const, Nat.reduceSub, Nat.succ_ne_zero, ne_eq, not_false_eq_true, reduceCtorEq, ie_10, ie_01, not_true_eq_false, not_false_eq_true, true_implies, false_implies, implies_true, and_self, and_true, true_and, true_or, or_true]
    refine ⟨⟨by decide, vp_dec rfl⟩, ?_⟩
    refine lp_f X hr rfl ?_
    simp only [x_nil, x_iconst, x_bipush, x_sipush, x_ldc, x_ldcw, x_lconst, x_ldc2, x_iload_n0, x_lload_n0, x_aload_n0, x_istore_n0, x_astore_n0, x_lstore_n0, x_iinc_0, x_iload_n1, x_lload_n1, x_aload_n1, x_istore_n1, x_astore_n1, x_lstore_n1, x_iinc_1, x_iload_n2, x_lload_n2, x_aload_n2, x_istore_n2, x_astore_n2, x_lstore_n2, x_iinc_2, x_iload_n3, x_lload_n3, x_aload_n3, x_istore_n3, x_astore_n3, x_lstore_n3, x_iinc_3, x_iload_4, x_lload_4, x_aload_4, x_istore_4, x_astore_4, x_lstore_4, x_iinc_4, x_iload_5, x_lload_5, x_aload_5, x_istore_5, x_astore_5, x_lstore_5, x_iinc_5, x_iload_6, x_lload_6, x_aload_6, x_istore_6, x_astore_6, x_lstore_6, x_iinc_6, x_iload_7, x_lload_7, x_aload_7, x_istore_7, x_astore_7, x_lstore_7, x_iinc_7, x_iload_8, x_lload_8, x_aload_8, x_istore_8, x_astore_8, x_lstore_8, x_iinc_8, x_iload_9, x_lload_9, x_aload_9, x_istore_9, x_astore_9, x_lstore_9, x_iinc_9, x_iload_10, x_lload_10, x_aload_10, x_istore_10, x_astore_10, x_lstore_10, x_iinc_10, x_iload_11, x_lload_11, x_aload_11, x_istore_11, x_astore_11, x_lstore_11, x_iinc_11, x_iload_12, x_lload_12, x_aload_12, x_istore_12, x_astore_12, x_lstore_12, x_iinc_12, x_iload_13, x_lload_13, x_aload_13, x_istore_13, x_astore_13, x_lstore_13, x_iinc_13, x_iadd, x_isub, x_imul, x_iand, x_ior, x_ixor, x_ishl, x_ishr, x_iushr, x_ladd, x_lsub, x_lmul, x_land, x_idiv, x_irem, x_ldiv, x_lrem, x_ineg, x_lneg, x_lcmp, x_i2l, x_l2i, x_dupi, x_dupr, x_dup2, x_popi, x_popr, x_goto, x_ifeq, x_ifne, x_iflt, x_ifge, x_ifgt, x_ifle, x_iceq, x_icne, x_iclt, x_icge, x_icgt, x_icle, x_tsw, x_lsw, x_iret, x_lret, x_ret, x_getr, x_geti0, x_geti1, x_puti, x_putz, x_putr, x_iald, x_bald, x_lald, x_iast, x_bast, x_last, x_alen0, x_alen1, x_new, x_newa, x_iv0, x_is0, x_ii0_2, x_ii0_4, x_iv1, x_is1, x_ii1_2, x_ii1_4, x_iv2, x_is2, x_ii2_2, x_ii2_4, x_iv3, x_is3, x_iv4, x_is4, x_iv5, x_is5, x_iv6, x_is6, x_iv7, x_is7, x_obj, x_copy, ax_il_i, ax_il_r, ax_il_n, ax_il_l, ax_sz_0, ax_sz_i, ax_sz_r, ax_sz_l, Nat.reduceAdd, Bool.false_eq_true, ↓reduceIte, true_and, and_true, Option.toList_some, Option.toList_none, List.nil_append, List.cons_append, Nat.reduceEqDiff, Nat.reduceLeDiff, Nat.le_refl, false_implies, implies_true, Nat.zero_le, Nat.add_zero, forall_const, Nat.reduceSub, Nat.succ_ne_zero, ne_eq, not_false_eq_true, reduceCtorEq, ie_10, ie_01, not_true_eq_false, not_false_eq_true, true_implies, false_implies, implies_true, and_self, and_true, true_and, true_or, or_true]
    refine ⟨by rw [hk0], i', _, P', S', b', c', rfl, g1, g2, g3, fun k k1 k2 => ?_, fun _ => ?_⟩
    · rw [ax_up_r _ _ _ k2]; exact g4 k k1
    · exact ax_up_s _ _ _ _
theorem lp_met (hok : ax_Xok E) (hth : th_ok E) (hlf : l.stackTraces = false) (hb : ax_isT b = true) (hi : ci_ σ i P S) (hv : vi_ σ) {x n : Int32} : Met l yLp lp_ws (ax_rm (d + 1811) 1 6) (va_Pc (([.inr (.inr (8)), .inl (x), .inl (n), .inr (.inr (165))] : List ax_V).map (ax_cv E)) (ax_S E (none, i, lo, rf_ L P S (P + 12) b c))) (ax_Q E (lpq_ i lo L σ x n)) 1 6 (ax_A E) := by
  refine va_MetW (cc := method_3_code) (maxL := 5) (ret := some .int) (hh := hLp) (by decide) rfl ?_
  intro p e s m args below meth c0 s₁ B hml hv'
  obtain ⟨rfl, hH, hK, hX, hB⟩ := hv'
  have hts := atoms_spec (ws := lp_ws) B.pre
  obtain ⟨m9, meth9, c9, hn9, hm9, hc9, -, -, htab, -⟩ := Cond.codeWith_spec (hts _ List.mem_cons_self)
  cases B.named.symm.trans hn9
  cases B.method.symm.trans hm9
  cases (Stand.of_body B).code.symm.trans hc9
  have hown' : s.vm.findClass (ax_cn.getD 12 "") = some m.cls := findClass_of_methodNamed B.named
  rw [lg_entry_eq]
  have hl := lv_entry (([.inr (.inr (8)), .inl (x), .inl (n), .inr (.inr (165))] : List ax_V).map (ax_cv E)) (n := 5) (by rw [ax_sl_len]; exact (show 4 ≤ 5 by decide))
  have X : ax_X E p (ax_rm (d + 1810 + 1) 1 6) s m _ meth c0 method_3_code 12 5 (d + 1810) := ⟨B.exec, B.bytes, hml, hown', fun w hw => hts w (List.mem_cons_of_mem _ hw), hK, hok, B.notSynchronized, hB, by show d + 1810 + 2 ≤ d + 1810 + 1 + 1; omega, by show 52 + 40 * (d + 1810) ≤ 12 + 40 * (d + 1810 + 1); omega⟩
  exact lp_g (lo := lo) (L := L) (c := c) hok hth hlf hb hi hv X B.returns htab hX s.heap [] _ hH hX va_S.rf (ax_lv_nones (n := 1) ⟨hl.1, hl.2.1, fun q hq => hl.2.2 q (ax_ent_sub ([.inr (.inr (8)), .inl (x), .inl (n), .inr (.inr (165))] : List ax_V) 0 q hq)⟩)
end LPM
