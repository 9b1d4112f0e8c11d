/-! the law: its beginning -/
theorem rg_wrf {L t n : Nat} : ax_rg (wrf_ L) (wrf_ L) t n = wrf_ L := by
  funext q
  unfold ax_rg
  split <;> rfl
theorem rg_rg {α : Type} {f W : Nat → Nat → α} : ax_rg (ax_rg f W 8 121) W 121 165 = ax_rg f W 8 165 := by
  funext q
  unfold ax_rg
  by_cases h : 121 ≤ q ∧ q < 165
  · rw [if_pos h, if_pos (by omega)]
  · rw [if_neg h]
    by_cases h2 : 8 ≤ q ∧ q < 121
    · rw [if_pos h2, if_pos (by omega)]
    · rw [if_neg h2, if_neg (by omega)]
theorem ur_rg {i : Nat → Nat → Int32} : ax_ur (ax_rg i win_ 8 165) 165 (fun _ => 0) = ax_rg (ax_ur i 165 (fun _ => 0)) win_ 8 165 := by
  funext q
  unfold ax_ur ax_rg
  by_cases h : q = 165
  · subst h; simp
  · simp only [if_neg h]
theorem ur_wrf {L : Nat} : ax_ur (wrf_ L) 165 (fun _ => 0) = wrf_ L := by
  funext q
  unfold ax_ur
  by_cases h : q = 165
  · subst h; rw [if_pos rfl]; rfl
  · rw [if_neg h]
section STA
variable {E : ax_E} {p : Program} {l : Launch} {e : Env} {s : State} {m : MethodId} {bb : Nat} {below : List Frame} {meth : Method} {c0 : Code} {L : Nat} {xs : Nat → Int32} {pc : Nat} {ls : ax_L} {st : List ax_V} {i : Nat → Nat → Int32} {lo : Nat → Nat → Int64} {r : Nat → Nat → Nat} {kc ks : Nat}
theorem lw_none (h : lG E p l e s m bb below meth c0 pc ls st (none, i, lo, r) kc ks) : lG E p l e s m bb below meth c0 pc ls st (some 166, i, lo, r) kc ks := by
  intro H locs la h1 h2 h3 h4
  refine h H locs la ⟨fun n q => (nomatch q), fun k h8 _ => ?_, h1.2.2⟩ h2 h3 h4
  by_cases hk : k < 166
  · exact h1.2.1 k h8 (fun n q => by cases q; exact hk)
  · have e : ax_SH k = (3, 0) := by
      unfold ax_SH
      rw [List.getD_eq_getElem?_getD, List.getElem?_eq_none (by rw [ax_SH_len]; omega)]
      rfl
    refine ⟨fun q => ?_, fun q => ?_, fun q => ?_, fun c q => ?_⟩
    · rw [e] at q; cases q
    · rw [e] at q; cases q
    · rw [e] at q; cases q
    · rw [e] at q; simp at q
theorem lw_start (X : lX E p s m bb meth c0) (hok : ax_Xok E) (hzk : ax_Zok E) (hwm : wm_ok E) (hwt : wt_ok E) (hth : th_ok E) (hlf : l.stackTraces = false) (hs : ∀ (U : State) (H : Heap), E.2.2.2.2.2 U H → va_X (ax_ad E 1) L xs U H) (hL : L ≤ 3072) (h1 : i 1 = xs) (h2 : i 2 0 = nI 100 ∧ i 2 1 = nI 99 ∧ i 2 2 = nI 99999) : lG E p l e s m bb below meth c0 0 [some (.inr (.inr (1))), none, none, none, none, none, none] [] (some 8, i, lo, wrf_ L) 0 0 := by
  refine lw_f X k_Law0 rfl ?_
  simp only [x_nil, x_iconst, x_bipush, x_sipush, x_ldc, x_ldcw, x_lconst, x_ldc2, x_iload_n0, x_lload_n0, x_aload_n0, x_istore_n0, x_astore_n0, x_lstore_n0, x_iinc_0, x_iload_n1, x_lload_n1, x_aload_n1, x_istore_n1, x_astore_n1, x_lstore_n1, x_iinc_1, x_iload_n2, x_lload_n2, x_aload_n2, x_istore_n2, x_astore_n2, x_lstore_n2, x_iinc_2, x_iload_n3, x_lload_n3, x_aload_n3, x_istore_n3, x_astore_n3, x_lstore_n3, x_iinc_3, x_iload_4, x_lload_4, x_aload_4, x_istore_4, x_astore_4, x_lstore_4, x_iinc_4, x_iload_5, x_lload_5, x_aload_5, x_istore_5, x_astore_5, x_lstore_5, x_iinc_5, x_iload_6, x_lload_6, x_aload_6, x_istore_6, x_astore_6, x_lstore_6, x_iinc_6, x_iload_7, x_lload_7, x_aload_7, x_istore_7, x_astore_7, x_lstore_7, x_iinc_7, x_iload_8, x_lload_8, x_aload_8, x_istore_8, x_astore_8, x_lstore_8, x_iinc_8, x_iload_9, x_lload_9, x_aload_9, x_istore_9, x_astore_9, x_lstore_9, x_iinc_9, x_iload_10, x_lload_10, x_aload_10, x_istore_10, x_astore_10, x_lstore_10, x_iinc_10, x_iload_11, x_lload_11, x_aload_11, x_istore_11, x_astore_11, x_lstore_11, x_iinc_11, x_iload_12, x_lload_12, x_aload_12, x_istore_12, x_astore_12, x_lstore_12, x_iinc_12, x_iload_13, x_lload_13, x_aload_13, x_istore_13, x_astore_13, x_lstore_13, x_iinc_13, x_iadd, x_isub, x_imul, x_iand, x_ior, x_ixor, x_ishl, x_ishr, x_iushr, x_ladd, x_lsub, x_lmul, x_land, x_idiv, x_irem, x_ldiv, x_lrem, x_ineg, x_lneg, x_lcmp, x_i2l, x_l2i, x_dupi, x_dupr, x_dup2, x_popi, x_popr, x_goto, x_ifeq, x_ifne, x_iflt, x_ifge, x_ifgt, x_ifle, x_iceq, x_icne, x_iclt, x_icge, x_icgt, x_icle, x_tsw, x_lsw, x_iret, x_lret, x_ret, x_getr, x_geti0, x_geti1, x_puti, x_putz, x_putr, x_iald, x_bald, x_lald, x_iast, x_bast, x_last, x_alen0, x_alen1, x_new, x_newa, x_iv0, x_is0, x_ii0_2, x_ii0_4, x_iv1, x_is1, x_ii1_2, x_ii1_4, x_iv2, x_is2, x_ii2_2, x_ii2_4, x_iv3, x_is3, x_iv4, x_is4, x_iv5, x_is5, x_iv6, x_is6, x_iv7, x_is7, x_obj, x_copy, ax_il_i, ax_il_r, ax_il_n, ax_il_l, ax_sz_0, ax_sz_i, ax_sz_r, ax_sz_l, Nat.reduceAdd, Bool.false_eq_true, ↓reduceIte, true_and, and_true, Option.toList_some, Option.toList_none, List.nil_append, List.cons_append, Nat.reduceEqDiff, Nat.reduceLeDiff, Nat.le_refl, false_implies, implies_true, Nat.zero_le, Nat.add_zero, forall_const, Nat.reduceSub, Nat.succ_ne_zero, ne_eq, not_false_eq_true, reduceCtorEq, ie_10, ie_01, not_true_eq_false, not_false_eq_true, true_implies, false_implies, implies_true, and_self, and_true, true_and, true_or, or_true]
  repeat (first | refine And.intro (by decide) ?_ | refine And.intro (And.intro (by decide) (by decide)) ?_)
  refine (c_Face_init_8 (L := L) (d := 1994) hok hwt).mono ?_
  rintro v M' ⟨rfl, rfl⟩
  simp only [x_nil, x_iconst, x_bipush, x_sipush, x_ldc, x_ldcw, x_lconst, x_ldc2, x_iload_n0, x_lload_n0, x_aload_n0, x_istore_n0, x_astore_n0, x_lstore_n0, x_iinc_0, x_iload_n1, x_lload_n1, x_aload_n1, x_istore_n1, x_astore_n1, x_lstore_n1, x_iinc_1, x_iload_n2, x_lload_n2, x_aload_n2, x_istore_n2, x_astore_n2, x_lstore_n2, x_iinc_2, x_iload_n3, x_lload_n3, x_aload_n3, x_istore_n3, x_astore_n3, x_lstore_n3, x_iinc_3, x_iload_4, x_lload_4, x_aload_4, x_istore_4, x_astore_4, x_lstore_4, x_iinc_4, x_iload_5, x_lload_5, x_aload_5, x_istore_5, x_astore_5, x_lstore_5, x_iinc_5, x_iload_6, x_lload_6, x_aload_6, x_istore_6, x_astore_6, x_lstore_6, x_iinc_6, x_iload_7, x_lload_7, x_aload_7, x_istore_7, x_astore_7, x_lstore_7, x_iinc_7, x_iload_8, x_lload_8, x_aload_8, x_istore_8, x_astore_8, x_lstore_8, x_iinc_8, x_iload_9, x_lload_9, x_aload_9, x_istore_9, x_astore_9, x_lstore_9, x_iinc_9, x_iload_10, x_lload_10, x_aload_10, x_istore_10, x_astore_10, x_lstore_10, x_iinc_10, x_iload_11, x_lload_11, x_aload_11, x_istore_11, x_astore_11, x_lstore_11, x_iinc_11, x_iload_12, x_lload_12, x_aload_12, x_istore_12, x_astore_12, x_lstore_12, x_iinc_12, x_iload_13, x_lload_13, x_aload_13, x_istore_13, x_astore_13, x_lstore_13, x_iinc_13, x_iadd, x_isub, x_imul, x_iand, x_ior, x_ixor, x_ishl, x_ishr, x_iushr, x_ladd, x_lsub, x_lmul, x_land, x_idiv, x_irem, x_ldiv, x_lrem, x_ineg, x_lneg, x_lcmp, x_i2l, x_l2i, x_dupi, x_dupr, x_dup2, x_popi, x_popr, x_goto, x_ifeq, x_ifne, x_iflt, x_ifge, x_ifgt, x_ifle, x_iceq, x_icne, x_iclt, x_icge, x_icgt, x_icle, x_tsw, x_lsw, x_iret, x_lret, x_ret, x_getr, x_geti0, x_geti1, x_puti, x_putz, x_putr, x_iald, x_bald, x_lald, x_iast, x_bast, x_last, x_alen0, x_alen1, x_new, x_newa, x_iv0, x_is0, x_ii0_2, x_ii0_4, x_iv1, x_is1, x_ii1_2, x_ii1_4, x_iv2, x_is2, x_ii2_2, x_ii2_4, x_iv3, x_is3, x_iv4, x_is4, x_iv5, x_is5, x_iv6, x_is6, x_iv7, x_is7, x_obj, x_copy, ax_il_i, ax_il_r, ax_il_n, ax_il_l, ax_sz_0, ax_sz_i, ax_sz_r, ax_sz_l, Nat.reduceAdd, Bool.false_eq_true, ↓reduceIte, true_and, and_true, Option.toList_some, Option.toList_none, List.nil_append, List.cons_append, Nat.reduceEqDiff, Nat.reduceLeDiff, Nat.le_refl, false_implies, implies_true, Nat.zero_le, Nat.add_zero, forall_const, Nat.reduceSub, Nat.succ_ne_zero, ne_eq, not_false_eq_true, reduceCtorEq, ie_10, ie_01, not_true_eq_false, not_false_eq_true, true_implies, false_implies, implies_true, and_self, and_true, true_and, true_or, or_true]
  repeat (first | refine And.intro (by decide) ?_ | refine And.intro (And.intro (by decide) (by decide)) ?_)
  refine (c_Model_init_121 (L := L) (d := 1996) hok).mono ?_
  rintro v M' ⟨rfl, rfl⟩
  simp only [x_nil, x_iconst, x_bipush, x_sipush, x_ldc, x_ldcw, x_lconst, x_ldc2, x_iload_n0, x_lload_n0, x_aload_n0, x_istore_n0, x_astore_n0, x_lstore_n0, x_iinc_0, x_iload_n1, x_lload_n1, x_aload_n1, x_istore_n1, x_astore_n1, x_lstore_n1, x_iinc_1, x_iload_n2, x_lload_n2, x_aload_n2, x_istore_n2, x_astore_n2, x_lstore_n2, x_iinc_2, x_iload_n3, x_lload_n3, x_aload_n3, x_istore_n3, x_astore_n3, x_lstore_n3, x_iinc_3, x_iload_4, x_lload_4, x_aload_4, x_istore_4, x_astore_4, x_lstore_4, x_iinc_4, x_iload_5, x_lload_5, x_aload_5, x_istore_5, x_astore_5, x_lstore_5, x_iinc_5, x_iload_6, x_lload_6, x_aload_6, x_istore_6, x_astore_6, x_lstore_6, x_iinc_6, x_iload_7, x_lload_7, x_aload_7, x_istore_7, x_astore_7, x_lstore_7, x_iinc_7, x_iload_8, x_lload_8, x_aload_8, x_istore_8, x_astore_8, x_lstore_8, x_iinc_8, x_iload_9, x_lload_9, x_aload_9, x_istore_9, x_astore_9, x_lstore_9, x_iinc_9, x_iload_10, x_lload_10, x_aload_10, x_istore_10, x_astore_10, x_lstore_10, x_iinc_10, x_iload_11, x_lload_11, x_aload_11, x_istore_11, x_astore_11, x_lstore_11, x_iinc_11, x_iload_12, x_lload_12, x_aload_12, x_istore_12, x_astore_12, x_lstore_12, x_iinc_12, x_iload_13, x_lload_13, x_aload_13, x_istore_13, x_astore_13, x_lstore_13, x_iinc_13, x_iadd, x_isub, x_imul, x_iand, x_ior, x_ixor, x_ishl, x_ishr, x_iushr, x_ladd, x_lsub, x_lmul, x_land, x_idiv, x_irem, x_ldiv, x_lrem, x_ineg, x_lneg, x_lcmp, x_i2l, x_l2i, x_dupi, x_dupr, x_dup2, x_popi, x_popr, x_goto, x_ifeq, x_ifne, x_iflt, x_ifge, x_ifgt, x_ifle, x_iceq, x_icne, x_iclt, x_icge, x_icgt, x_icle, x_tsw, x_lsw, x_iret, x_lret, x_ret, x_getr, x_geti0, x_geti1, x_puti, x_putz, x_putr, x_iald, x_bald, x_lald, x_iast, x_bast, x_last, x_alen0, x_alen1, x_new, x_newa, x_iv0, x_is0, x_ii0_2, x_ii0_4, x_iv1, x_is1, x_ii1_2, x_ii1_4, x_iv2, x_is2, x_ii2_2, x_ii2_4, x_iv3, x_is3, x_iv4, x_is4, x_iv5, x_is5, x_iv6, x_is6, x_iv7, x_is7, x_obj, x_copy, ax_il_i, ax_il_r, ax_il_n, ax_il_l, ax_sz_0, ax_sz_i, ax_sz_r, ax_sz_l, Nat.reduceAdd, Bool.false_eq_true, ↓reduceIte, true_and, and_true, Option.toList_some, Option.toList_none, List.nil_append, List.cons_append, Nat.reduceEqDiff, Nat.reduceLeDiff, Nat.le_refl, false_implies, implies_true, Nat.zero_le, Nat.add_zero, forall_const, Nat.reduceSub, Nat.succ_ne_zero, ne_eq, not_false_eq_true, reduceCtorEq, ie_10, ie_01, not_true_eq_false, not_false_eq_true, true_implies, false_implies, implies_true, and_self, and_true, true_and, true_or, or_true]
  repeat (first | refine And.intro (by decide) ?_ | refine And.intro (And.intro (by decide) (by decide)) ?_)
  rw [rg_wrf, rg_wrf, ur_wrf, rg_rg, ur_rg]
  refine lw_none ?_
  exact lw_loop (l := l) (e := e) (below := below) X hok hzk (c_Model_word hok hwm) hth hlf hs hL 600 0 (by omega) (Nat.zero_le _) s00 (ax_rg (ax_ur i 165 (fun _ => 0)) win_ 8 165) _ 10 54 37 0 none none (lI_00 (by rw [ax_ur_k _ _ (by decide)]; exact h1) (by rw [ax_ur_k _ _ (by decide)]; exact h2))
end STA
