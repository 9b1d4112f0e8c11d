/-! constructors -/
/-- how the cells stand once made -/
def win_ (k j : Nat) : Int32 := if k = 53 then nI (wc_ j) else if (k = 11 ∨ k = 37 ∨ k = 55 ∨ k = 81 ∨ k = 104) ∧ j = 16 then 2 else if k = 51 ∧ j = 2 then -1 else if k = 96 ∧ (j = 1 ∨ j = 2) then -1 else if k = 121 ∧ (j = 30 ∨ j = 50 ∨ j = 51 ∨ j = 63) then -1 else if k = 123 ∧ (j = 5 ∨ j = 13) then 2 else 0
def wlo_ (_ _ : Nat) : Int64 := 0
abbrev wrf_ (L : Nat) : Nat → Nat → Nat := rf_ L 10 54 22 37 54
def ax_rg {α : Type} (f W : Nat → Nat → α) (t n q : Nat) : Nat → α := if t ≤ q ∧ q < n then W q else f q
def q_in (L t n m : Nat) (i : Nat → Nat → Int32) (lo : Nat → Nat → Int64) (r : Nat → Nat → Nat) : Option ax_V → ax_M → Prop := fun v M' => v = none ∧ M' = (some m, ax_rg i win_ t n, ax_rg lo wlo_ t n, ax_rg r (wrf_ L) t n)
abbrev ax_z (t n : Nat) (i : Nat → Nat → Int32) (lo : Nat → Nat → Int64) (r : Nat → Nat → Nat) : ax_M := (some n, ax_ur i t (fun _ => 0), ax_ur lo t (fun _ => 0), ax_ur r t (fun _ => 0))
theorem rg_eq {α : Type} {f i W : Nat → Nat → α} {t n : Nat} (h1 : ∀ q, ¬ (t ≤ q ∧ q < n) → f q = i q) (h2 : ∀ q, t ≤ q → q < n → f q = W q) : f = ax_rg i W t n := by
  funext q
  unfold ax_rg
  by_cases h : t ≤ q ∧ q < n
  · rw [if_pos h]; exact h2 q h.1 h.2
  · rw [if_neg h]; exact h1 q h
theorem q_mk {L t n m : Nat} {i i' : Nat → Nat → Int32} {lo lo' : Nat → Nat → Int64} {r r' : Nat → Nat → Nat} (h1 : i' = ax_rg i win_ t n) (h2 : lo' = ax_rg lo wlo_ t n) (h3 : r' = ax_rg r (wrf_ L) t n) : ((some m, i', lo', r') : ax_M) = (some m, ax_rg i win_ t n, ax_rg lo wlo_ t n, ax_rg r (wrf_ L) t n) := by
  subst h1; subst h2; subst h3; rfl
theorem rg_ap {α : Type} {f W : Nat → Nat → α} {t n q : Nat} : ax_rg f W t n q = if t ≤ q ∧ q < n then W q else f q := rfl
section INI
variable {E : ax_E} {l : Launch} {d L : Nat} {i : Nat → Nat → Int32} {lo : Nat → Nat → Int64} {r : Nat → Nat → Nat}
theorem c_Town_init_11 (hok : ax_Xok E) : ax_C E l (d + 2) m_Town_init [.inr (.inr (11))] (ax_z 11 12 i lo r) (q_in L 11 22 22 i lo r) := by
  refine g_Town_init hok ?_
  refine f_Town_init rfl ?_
  simp only [x_nil, x_iconst, x_bipush, x_sipush, x_ldc, x_ldcw, x_lconst, x_ldc2, x_iload_n0, x_lload_n0, x_aload_n0, x_istore_n0, x_astore_n0, x_lstore_n0, x_iinc_0, x_iload_n1, x_lload_n1, x_aload_n1, x_istore_n1, x_astore_n1, x_lstore_n1, x_iinc_1, x_iload_n2, x_lload_n2, x_aload_n2, x_istore_n2, x_astore_n2, x_lstore_n2, x_iinc_2, x_iload_n3, x_lload_n3, x_aload_n3, x_istore_n3, x_astore_n3, x_lstore_n3, x_iinc_3, x_iload_4, x_lload_4, x_aload_4, x_istore_4, x_astore_4, x_lstore_4, x_iinc_4, x_iload_5, x_lload_5, x_aload_5, x_istore_5, x_astore_5, x_lstore_5, x_iinc_5, x_iload_6, x_lload_6, x_aload_6, x_istore_6, x_astore_6, x_lstore_6, x_iinc_6, x_iload_7, x_lload_7, x_aload_7, x_istore_7, x_astore_7, x_lstore_7, x_iinc_7, x_iload_8, x_lload_8, x_aload_8, x_istore_8, x_astore_8, x_lstore_8, x_iinc_8, x_iload_9, x_lload_9, x_aload_9, x_istore_9, x_astore_9, x_lstore_9, x_iinc_9, x_iload_10, x_lload_10, x_aload_10, x_istore_10, x_astore_10, x_lstore_10, x_iinc_10, x_iload_11, x_lload_11, x_aload_11, x_istore_11, x_astore_11, x_lstore_11, x_iinc_11, x_iload_12, x_lload_12, x_aload_12, x_istore_12, x_astore_12, x_lstore_12, x_iinc_12, x_iload_13, x_lload_13, x_aload_13, x_istore_13, x_astore_13, x_lstore_13, x_iinc_13, x_iadd, x_isub, x_imul, x_iand, x_ior, x_ixor, x_ishl, x_ishr, x_iushr, x_ladd, x_lsub, x_lmul, x_land, x_idiv, x_irem, x_ldiv, x_lrem, x_ineg, x_lneg, x_lcmp, x_i2l, x_l2i, x_dupi, x_dupr, x_dup2, x_popi, x_popr, x_goto, x_ifeq, x_ifne, x_iflt, x_ifge, x_ifgt, x_ifle, x_iceq, x_icne, x_iclt, x_icge, x_icgt, x_icle, x_tsw, x_lsw, x_iret, x_lret, x_ret, x_getr, x_geti0, x_geti1, x_puti, x_putz, x_putr, x_iald, x_bald, x_lald, x_iast, x_bast, x_last, x_alen0, x_alen1, x_new, x_newa, x_iv0, x_is0, x_ii0_2, x_ii0_4, x_iv1, x_is1, x_ii1_2, x_ii1_4, x_iv2, x_is2, x_ii2_2, x_ii2_4, x_iv3, x_is3, x_iv4, x_is4, x_iv5, x_is5, x_iv6, x_is6, x_iv7, x_is7, x_obj, x_copy, ax_il_i, ax_il_r, ax_il_n, ax_il_l, ax_sz_0, ax_sz_i, ax_sz_r, ax_sz_l, Nat.reduceAdd, Bool.false_eq_true, ↓reduceIte, true_and, and_true, Option.toList_some, Option.toList_none, List.nil_append, List.cons_append, Nat.reduceEqDiff, Nat.reduceLeDiff, Nat.le_refl, false_implies, implies_true, Nat.zero_le, Nat.add_zero, forall_const, Nat.reduceSub, Nat.succ_ne_zero, ne_eq, not_false_eq_true, reduceCtorEq, ie_10, ie_01, not_true_eq_false, not_false_eq_true, true_implies, false_implies, implies_true, and_self, and_true, true_and, true_or, or_true, sc_8, sc_9, sc_10, sc_11, sc_12, sc_13, sc_14, sc_15, sc_16, sc_17, sc_18, sc_19, sc_20, sc_21, sc_22, sc_23, sc_24, sc_25, sc_26, sc_27, sc_28, sc_29, sc_30, sc_31, sc_32, sc_33, sc_34, sc_35, sc_36, sc_37, sc_38, sc_39, sc_40, sc_41, sc_42, sc_43, sc_44, sc_45, sc_46, sc_47, sc_48, sc_49, sc_50, sc_51, sc_52, sc_53, sc_54, sc_55, sc_56, sc_57, sc_58, sc_59, sc_60, sc_61, sc_62, sc_63, sc_64, sc_65, sc_66, sc_67, sc_68, sc_69, sc_70, sc_71, sc_72, sc_73, sc_74, sc_75, sc_76, sc_77, sc_78, sc_79, sc_80, sc_81, sc_82, sc_83, sc_84, sc_85, sc_86, sc_87, sc_88, sc_89, sc_90, sc_91, sc_92, sc_93, sc_94, sc_95, sc_96, sc_97, sc_98, sc_99, sc_100, sc_101, sc_102, sc_103, sc_104, sc_105, sc_106, sc_107, sc_108, sc_109, sc_110, sc_111, sc_112, sc_113, sc_114, sc_115, sc_116, sc_117, sc_118, sc_119, sc_120, sc_121, sc_122, sc_123, sc_124, sc_125, sc_126, sc_127, sc_128, sc_129, sc_130, sc_131, sc_132, sc_133, sc_134, sc_135, sc_136, sc_137, sc_138, sc_139, sc_140, sc_141, sc_142, sc_143, sc_144, sc_145, sc_146, sc_147, sc_148, sc_149, sc_150, sc_151, sc_152, sc_153, sc_154, sc_155, sc_156, sc_157, sc_158, sc_159, sc_160, sc_161, sc_162, sc_163, sc_164, sc_165, ax_z]
  repeat (first | refine And.intro (by decide) ?_ | refine And.intro (And.intro (by decide) (by decide)) ?_)
  refine q_mk (rg_eq (fun q hq => ?_) (fun q q1 q2 => ?_)) (rg_eq (fun q hq => ?_) (fun q q1 q2 => ?_)) (rg_eq (fun q hq => ?_) (fun q q1 q2 => ?_))
  · funext z
    simp only [ax_up, ax_ur, ax_rg, if_neg (show ¬ q = 11 by omega), if_neg (show ¬ q = 12 by omega), if_neg (show ¬ q = 13 by omega), if_neg (show ¬ q = 14 by omega), if_neg (show ¬ q = 15 by omega), if_neg (show ¬ q = 16 by omega), if_neg (show ¬ q = 17 by omega), if_neg (show ¬ q = 18 by omega), if_neg (show ¬ q = 19 by omega), if_neg (show ¬ q = 20 by omega), if_neg (show ¬ q = 21 by omega)]
  · rcases (show q = 11 ∨ 12 ≤ q by omega) with rfl | q3
    · funext j
      rcases (show j = 0 ∨ j = 1 ∨ j = 2 ∨ j = 3 ∨ j = 4 ∨ j = 5 ∨ j = 6 ∨ j = 7 ∨ j = 8 ∨ j = 9 ∨ j = 10 ∨ j = 11 ∨ j = 12 ∨ j = 13 ∨ j = 14 ∨ j = 15 ∨ j = 16 ∨ j = 17 ∨ 18 ≤ j by omega) with rfl | rfl | rfl | rfl | rfl | rfl | rfl | rfl | rfl | rfl | rfl | rfl | rfl | rfl | rfl | rfl | rfl | rfl | hj
      rotate_left 18
      · obtain ⟨u, rfl⟩ : ∃ u, j = u + 18 := ⟨j - 18, by omega⟩
        rfl
      all_goals rfl
    · rcases (show q = 12 ∨ q = 13 ∨ q = 14 ∨ q = 15 ∨ q = 16 ∨ q = 17 ∨ q = 18 ∨ q = 19 ∨ q = 20 ∨ q = 21 by omega) with rfl | rfl | rfl | rfl | rfl | rfl | rfl | rfl | rfl | rfl <;> rfl
  · funext z
    simp only [ax_up, ax_ur, ax_rg, if_neg (show ¬ q = 11 by omega), if_neg (show ¬ q = 12 by omega), if_neg (show ¬ q = 13 by omega), if_neg (show ¬ q = 14 by omega), if_neg (show ¬ q = 15 by omega), if_neg (show ¬ q = 16 by omega), if_neg (show ¬ q = 17 by omega), if_neg (show ¬ q = 18 by omega), if_neg (show ¬ q = 19 by omega), if_neg (show ¬ q = 20 by omega), if_neg (show ¬ q = 21 by omega)]
  · rcases (show q = 11 ∨ q = 12 ∨ q = 13 ∨ q = 14 ∨ q = 15 ∨ q = 16 ∨ q = 17 ∨ q = 18 ∨ q = 19 ∨ q = 20 ∨ q = 21 by omega) with rfl | rfl | rfl | rfl | rfl | rfl | rfl | rfl | rfl | rfl | rfl <;> rfl
  · funext z
    simp only [ax_up, ax_ur, ax_rg, if_neg (show ¬ q = 11 by omega), if_neg (show ¬ q = 12 by omega), if_neg (show ¬ q = 13 by omega), if_neg (show ¬ q = 14 by omega), if_neg (show ¬ q = 15 by omega), if_neg (show ¬ q = 16 by omega), if_neg (show ¬ q = 17 by omega), if_neg (show ¬ q = 18 by omega), if_neg (show ¬ q = 19 by omega), if_neg (show ¬ q = 20 by omega), if_neg (show ¬ q = 21 by omega)]
  · rcases (show q = 11 ∨ 12 ≤ q by omega) with rfl | q3
    · funext j
      rcases (show j = 0 ∨ j = 1 ∨ j = 2 ∨ j = 3 ∨ j = 4 ∨ j = 5 ∨ j = 6 ∨ j = 7 ∨ j = 8 ∨ j = 9 ∨ j = 10 ∨ j = 11 ∨ j = 12 ∨ j = 13 ∨ j = 14 ∨ j = 15 ∨ j = 16 ∨ j = 17 ∨ 18 ≤ j by omega) with rfl | rfl | rfl | rfl | rfl | rfl | rfl | rfl | rfl | rfl | rfl | rfl | rfl | rfl | rfl | rfl | rfl | rfl | hj
      rotate_left 18
      · obtain ⟨u, rfl⟩ : ∃ u, j = u + 18 := ⟨j - 18, by omega⟩
        rfl
      all_goals rfl
    · rcases (show q = 12 ∨ q = 13 ∨ q = 14 ∨ q = 15 ∨ q = 16 ∨ q = 17 ∨ q = 18 ∨ q = 19 ∨ q = 20 ∨ q = 21 by omega) with rfl | rfl | rfl | rfl | rfl | rfl | rfl | rfl | rfl | rfl <;> rfl
theorem c_Town_init_37 (hok : ax_Xok E) : ax_C E l (d + 2) m_Town_init [.inr (.inr (37))] (ax_z 37 38 i lo r) (q_in L 37 48 48 i lo r) := by
  refine g_Town_init hok ?_
  refine f_Town_init rfl ?_
  simp only [x_nil, x_iconst, x_bipush, x_sipush, x_ldc, x_ldcw, x_lconst, x_ldc2, x_iload_n0, x_lload_n0, x_aload_n0, x_istore_n0, x_astore_n0, x_lstore_n0, x_iinc_0, x_iload_n1, x_lload_n1, x_aload_n1, x_istore_n1, x_astore_n1, x_lstore_n1, x_iinc_1, x_iload_n2, x_lload_n2, x_aload_n2, x_istore_n2, x_astore_n2, x_lstore_n2, x_iinc_2, x_iload_n3, x_lload_n3, x_aload_n3, x_istore_n3, x_astore_n3, x_lstore_n3, x_iinc_3, x_iload_4, x_lload_4, x_aload_4, x_istore_4, x_astore_4, x_lstore_4, x_iinc_4, x_iload_5, x_lload_5, x_aload_5, x_istore_5, x_astore_5, x_lstore_5, x_iinc_5, x_iload_6, x_lload_6, x_aload_6, x_istore_6, x_astore_6, x_lstore_6, x_iinc_6, x_iload_7, x_lload_7, x_aload_7, x_istore_7, x_astore_7, x_lstore_7, x_iinc_7, x_iload_8, x_lload_8, x_aload_8, x_istore_8, x_astore_8, x_lstore_8, x_iinc_8, x_iload_9, x_lload_9, x_aload_9, x_istore_9, x_astore_9, x_lstore_9, x_iinc_9, x_iload_10, x_lload_10, x_aload_10, x_istore_10, x_astore_10, x_lstore_10, x_iinc_10, x_iload_11, x_lload_11, x_aload_11, x_istore_11, x_astore_11, x_lstore_11, x_iinc_11, x_iload_12, x_lload_12, x_aload_12, x_istore_12, x_astore_12, x_lstore_12, x_iinc_12, x_iload_13, x_lload_13, x_aload_13, x_istore_13, x_astore_13, x_lstore_13, x_iinc_13, x_iadd, x_isub, x_imul, x_iand, x_ior, x_ixor, x_ishl, x_ishr, x_iushr, x_ladd, x_lsub, x_lmul, x_land, x_idiv, x_irem, x_ldiv, x_lrem, x_ineg, x_lneg, x_lcmp, x_i2l, x_l2i, x_dupi, x_dupr, x_dup2, x_popi, x_popr, x_goto, x_ifeq, x_ifne, x_iflt, x_ifge, x_ifgt, x_ifle, x_iceq, x_icne, x_iclt, x_icge, x_icgt, x_icle, x_tsw, x_lsw, x_iret, x_lret, x_ret, x_getr, x_geti0, x_geti1, x_puti, x_putz, x_putr, x_iald, x_bald, x_lald, x_iast, x_bast, x_last, x_alen0, x_alen1, x_new, x_newa, x_iv0, x_is0, x_ii0_2, x_ii0_4, x_iv1, x_is1, x_ii1_2, x_ii1_4, x_iv2, x_is2, x_ii2_2, x_ii2_4, x_iv3, x_is3, x_iv4, x_is4, x_iv5, x_is5, x_iv6, x_is6, x_iv7, x_is7, x_obj, x_copy, ax_il_i, ax_il_r, ax_il_n, ax_il_l, ax_sz_0, ax_sz_i, ax_sz_r, ax_sz_l, Nat.reduceAdd, Bool.false_eq_true, ↓reduceIte, true_and, and_true, Option.toList_some, Option.toList_none, List.nil_append, List.cons_append, Nat.reduceEqDiff, Nat.reduceLeDiff, Nat.le_refl, false_implies, implies_true, Nat.zero_le, Nat.add_zero, forall_const, Nat.reduceSub, Nat.succ_ne_zero, ne_eq, not_false_eq_true, reduceCtorEq, ie_10, ie_01, not_true_eq_false, not_false_eq_true, true_implies, false_implies, implies_true, and_self, and_true, true_and, true_or, or_true, sc_8, sc_9, sc_10, sc_11, sc_12, sc_13, sc_14, sc_15, sc_16, sc_17, sc_18, sc_19, sc_20, sc_21, sc_22, sc_23, sc_24, sc_25, sc_26, sc_27, sc_28, sc_29, sc_30, sc_31, sc_32, sc_33, sc_34, sc_35, sc_36, sc_37, sc_38, sc_39, sc_40, sc_41, sc_42, sc_43, sc_44, sc_45, sc_46, sc_47, sc_48, sc_49, sc_50, sc_51, sc_52, sc_53, sc_54, sc_55, sc_56, sc_57, sc_58, sc_59, sc_60, sc_61, sc_62, sc_63, sc_64, sc_65, sc_66, sc_67, sc_68, sc_69, sc_70, sc_71, sc_72, sc_73, sc_74, sc_75, sc_76, sc_77, sc_78, sc_79, sc_80, sc_81, sc_82, sc_83, sc_84, sc_85, sc_86, sc_87, sc_88, sc_89, sc_90, sc_91, sc_92, sc_93, sc_94, sc_95, sc_96, sc_97, sc_98, sc_99, sc_100, sc_101, sc_102, sc_103, sc_104, sc_105, sc_106, sc_107, sc_108, sc_109, sc_110, sc_111, sc_112, sc_113, sc_114, sc_115, sc_116, sc_117, sc_118, sc_119, sc_120, sc_121, sc_122, sc_123, sc_124, sc_125, sc_126, sc_127, sc_128, sc_129, sc_130, sc_131, sc_132, sc_133, sc_134, sc_135, sc_136, sc_137, sc_138, sc_139, sc_140, sc_141, sc_142, sc_143, sc_144, sc_145, sc_146, sc_147, sc_148, sc_149, sc_150, sc_151, sc_152, sc_153, sc_154, sc_155, sc_156, sc_157, sc_158, sc_159, sc_160, sc_161, sc_162, sc_163, sc_164, sc_165, ax_z]
  repeat (first | refine And.intro (by decide) ?_ | refine And.intro (And.intro (by decide) (by decide)) ?_)
  refine q_mk (rg_eq (fun q hq => ?_) (fun q q1 q2 => ?_)) (rg_eq (fun q hq => ?_) (fun q q1 q2 => ?_)) (rg_eq (fun q hq => ?_) (fun q q1 q2 => ?_))
  · funext z
    simp only [ax_up, ax_ur, ax_rg, if_neg (show ¬ q = 37 by omega), if_neg (show ¬ q = 38 by omega), if_neg (show ¬ q = 39 by omega), if_neg (show ¬ q = 40 by omega), if_neg (show ¬ q = 41 by omega), if_neg (show ¬ q = 42 by omega), if_neg (show ¬ q = 43 by omega), if_neg (show ¬ q = 44 by omega), if_neg (show ¬ q = 45 by omega), if_neg (show ¬ q = 46 by omega), if_neg (show ¬ q = 47 by omega)]
  · rcases (show q = 37 ∨ 38 ≤ q by omega) with rfl | q3
    · funext j
      rcases (show j = 0 ∨ j = 1 ∨ j = 2 ∨ j = 3 ∨ j = 4 ∨ j = 5 ∨ j = 6 ∨ j = 7 ∨ j = 8 ∨ j = 9 ∨ j = 10 ∨ j = 11 ∨ j = 12 ∨ j = 13 ∨ j = 14 ∨ j = 15 ∨ j = 16 ∨ j = 17 ∨ 18 ≤ j by omega) with rfl | rfl | rfl | rfl | rfl | rfl | rfl | rfl | rfl | rfl | rfl | rfl | rfl | rfl | rfl | rfl | rfl | rfl | hj
      rotate_left 18
      · obtain ⟨u, rfl⟩ : ∃ u, j = u + 18 := ⟨j - 18, by omega⟩
        rfl
      all_goals rfl
    · rcases (show q = 38 ∨ q = 39 ∨ q = 40 ∨ q = 41 ∨ q = 42 ∨ q = 43 ∨ q = 44 ∨ q = 45 ∨ q = 46 ∨ q = 47 by omega) with rfl | rfl | rfl | rfl | rfl | rfl | rfl | rfl | rfl | rfl <;> rfl
  · funext z
    simp only [ax_up, ax_ur, ax_rg, if_neg (show ¬ q = 37 by omega), if_neg (show ¬ q = 38 by omega), if_neg (show ¬ q = 39 by omega), if_neg (show ¬ q = 40 by omega), if_neg (show ¬ q = 41 by omega), if_neg (show ¬ q = 42 by omega), if_neg (show ¬ q = 43 by omega), if_neg (show ¬ q = 44 by omega), if_neg (show ¬ q = 45 by omega), if_neg (show ¬ q = 46 by omega), if_neg (show ¬ q = 47 by omega)]
  · rcases (show q = 37 ∨ q = 38 ∨ q = 39 ∨ q = 40 ∨ q = 41 ∨ q = 42 ∨ q = 43 ∨ q = 44 ∨ q = 45 ∨ q = 46 ∨ q = 47 by omega) with rfl | rfl | rfl | rfl | rfl | rfl | rfl | rfl | rfl | rfl | rfl <;> rfl
  · funext z
    simp only [ax_up, ax_ur, ax_rg, if_neg (show ¬ q = 37 by omega), if_neg (show ¬ q = 38 by omega), if_neg (show ¬ q = 39 by omega), if_neg (show ¬ q = 40 by omega), if_neg (show ¬ q = 41 by omega), if_neg (show ¬ q = 42 by omega), if_neg (show ¬ q = 43 by omega), if_neg (show ¬ q = 44 by omega), if_neg (show ¬ q = 45 by omega), if_neg (show ¬ q = 46 by omega), if_neg (show ¬ q = 47 by omega)]
  · rcases (show q = 37 ∨ 38 ≤ q by omega) with rfl | q3
    · funext j
      rcases (show j = 0 ∨ j = 1 ∨ j = 2 ∨ j = 3 ∨ j = 4 ∨ j = 5 ∨ j = 6 ∨ j = 7 ∨ j = 8 ∨ j = 9 ∨ j = 10 ∨ j = 11 ∨ j = 12 ∨ j = 13 ∨ j = 14 ∨ j = 15 ∨ j = 16 ∨ j = 17 ∨ 18 ≤ j by omega) with rfl | rfl | rfl | rfl | rfl | rfl | rfl | rfl | rfl | rfl | rfl | rfl | rfl | rfl | rfl | rfl | rfl | rfl | hj
      rotate_left 18
      · obtain ⟨u, rfl⟩ : ∃ u, j = u + 18 := ⟨j - 18, by omega⟩
        rfl
      all_goals rfl
    · rcases (show q = 38 ∨ q = 39 ∨ q = 40 ∨ q = 41 ∨ q = 42 ∨ q = 43 ∨ q = 44 ∨ q = 45 ∨ q = 46 ∨ q = 47 by omega) with rfl | rfl | rfl | rfl | rfl | rfl | rfl | rfl | rfl | rfl <;> rfl
theorem c_Town_init_55 (hok : ax_Xok E) : ax_C E l (d + 2) m_Town_init [.inr (.inr (55))] (ax_z 55 56 i lo r) (q_in L 55 66 66 i lo r) := by
  refine g_Town_init hok ?_
  refine f_Town_init rfl ?_
  simp only [x_nil, x_iconst, x_bipush, x_sipush, x_ldc, x_ldcw, x_lconst, x_ldc2, x_iload_n0, x_lload_n0, x_aload_n0, x_istore_n0, x_astore_n0, x_lstore_n0, x_iinc_0, x_iload_n1, x_lload_n1, x_aload_n1, x_istore_n1, x_astore_n1, x_lstore_n1, x_iinc_1, x_iload_n2, x_lload_n2, x_aload_n2, x_istore_n2, x_astore_n2, x_lstore_n2, x_iinc_2, x_iload_n3, x_lload_n3, x_aload_n3, x_istore_n3, x_astore_n3, x_lstore_n3, x_iinc_3, x_iload_4, x_lload_4, x_aload_4, x_istore_4, x_astore_4, x_lstore_4, x_iinc_4, x_iload_5, x_lload_5, x_aload_5, x_istore_5, x_astore_5, x_lstore_5, x_iinc_5, x_iload_6, x_lload_6, x_aload_6, x_istore_6, x_astore_6, x_lstore_6, x_iinc_6, x_iload_7, x_lload_7, x_aload_7, x_istore_7, x_astore_7, x_lstore_7, x_iinc_7, x_iload_8, x_lload_8, x_aload_8, x_istore_8, x_astore_8, x_lstore_8, x_iinc_8, x_iload_9, x_lload_9, x_aload_9, x_istore_9, x_astore_9, x_lstore_9, x_iinc_9, x_iload_10, x_lload_10, x_aload_10, x_istore_10, x_astore_10, x_lstore_10, x_iinc_10, x_iload_11, x_lload_11, x_aload_11, x_istore_11, x_astore_11, x_lstore_11, x_iinc_11, x_iload_12, x_lload_12, x_aload_12, x_istore_12, x_astore_12, x_lstore_12, x_iinc_12, x_iload_13, x_lload_13, x_aload_13, x_istore_13, x_astore_13, x_lstore_13, x_iinc_13, x_iadd, x_isub, x_imul, x_iand, x_ior, x_ixor, x_ishl, x_ishr, x_iushr, x_ladd, x_lsub, x_lmul, x_land, x_idiv, x_irem, x_ldiv, x_lrem, x_ineg, x_lneg, x_lcmp, x_i2l, x_l2i, x_dupi, x_dupr, x_dup2, x_popi, x_popr, x_goto, x_ifeq, x_ifne, x_iflt, x_ifge, x_ifgt, x_ifle, x_iceq, x_icne, x_iclt, x_icge, x_icgt, x_icle, x_tsw, x_lsw, x_iret, x_lret, x_ret, x_getr, x_geti0, x_geti1, x_puti, x_putz, x_putr, x_iald, x_bald, x_lald, x_iast, x_bast, x_last, x_alen0, x_alen1, x_new, x_newa, x_iv0, x_is0, x_ii0_2, x_ii0_4, x_iv1, x_is1, x_ii1_2, x_ii1_4, x_iv2, x_is2, x_ii2_2, x_ii2_4, x_iv3, x_is3, x_iv4, x_is4, x_iv5, x_is5, x_iv6, x_is6, x_iv7, x_is7, x_obj, x_copy, ax_il_i, ax_il_r, ax_il_n, ax_il_l, ax_sz_0, ax_sz_i, ax_sz_r, ax_sz_l, Nat.reduceAdd, Bool.false_eq_true, ↓reduceIte, true_and, and_true, Option.toList_some, Option.toList_none, List.nil_append, List.cons_append, Nat.reduceEqDiff, Nat.reduceLeDiff, Nat.le_refl, false_implies, implies_true, Nat.zero_le, Nat.add_zero, forall_const, Nat.reduceSub, Nat.succ_ne_zero, ne_eq, not_false_eq_true, reduceCtorEq, ie_10, ie_01, not_true_eq_false, not_false_eq_true, true_implies, false_implies, implies_true, and_self, and_true, true_and, true_or, or_true, sc_8, sc_9, sc_10, sc_11, sc_12, sc_13, sc_14, sc_15, sc_16, sc_17, sc_18, sc_19, sc_20, sc_21, sc_22, sc_23, sc_24, sc_25, sc_26, sc_27, sc_28, sc_29, sc_30, sc_31, sc_32, sc_33, sc_34, sc_35, sc_36, sc_37, sc_38, sc_39, sc_40, sc_41, sc_42, sc_43, sc_44, sc_45, sc_46, sc_47, sc_48, sc_49, sc_50, sc_51, sc_52, sc_53, sc_54, sc_55, sc_56, sc_57, sc_58, sc_59, sc_60, sc_61, sc_62, sc_63, sc_64, sc_65, sc_66, sc_67, sc_68, sc_69, sc_70, sc_71, sc_72, sc_73, sc_74, sc_75, sc_76, sc_77, sc_78, sc_79, sc_80, sc_81, sc_82, sc_83, sc_84, sc_85, sc_86, sc_87, sc_88, sc_89, sc_90, sc_91, sc_92, sc_93, sc_94, sc_95, sc_96, sc_97, sc_98, sc_99, sc_100, sc_101, sc_102, sc_103, sc_104, sc_105, sc_106, sc_107, sc_108, sc_109, sc_110, sc_111, sc_112, sc_113, sc_114, sc_115, sc_116, sc_117, sc_118, sc_119, sc_120, sc_121, sc_122, sc_123, sc_124, sc_125, sc_126, sc_127, sc_128, sc_129, sc_130, sc_131, sc_132, sc_133, sc_134, sc_135, sc_136, sc_137, sc_138, sc_139, sc_140, sc_141, sc_142, sc_143, sc_144, sc_145, sc_146, sc_147, sc_148, sc_149, sc_150, sc_151, sc_152, sc_153, sc_154, sc_155, sc_156, sc_157, sc_158, sc_159, sc_160, sc_161, sc_162, sc_163, sc_164, sc_165, ax_z]
  repeat (first | refine And.intro (by decide) ?_ | refine And.intro (And.intro (by decide) (by decide)) ?_)
  refine q_mk (rg_eq (fun q hq => ?_) (fun q q1 q2 => ?_)) (rg_eq (fun q hq => ?_) (fun q q1 q2 => ?_)) (rg_eq (fun q hq => ?_) (fun q q1 q2 => ?_))
  · funext z
    simp only [ax_up, ax_ur, ax_rg, if_neg (show ¬ q = 55 by omega), if_neg (show ¬ q = 56 by omega), if_neg (show ¬ q = 57 by omega), if_neg (show ¬ q = 58 by omega), if_neg (show ¬ q = 59 by omega), if_neg (show ¬ q = 60 by omega), if_neg (show ¬ q = 61 by omega), if_neg (show ¬ q = 62 by omega), if_neg (show ¬ q = 63 by omega), if_neg (show ¬ q = 64 by omega), if_neg (show ¬ q = 65 by omega)]
  · rcases (show q = 55 ∨ 56 ≤ q by omega) with rfl | q3
    · funext j
      rcases (show j = 0 ∨ j = 1 ∨ j = 2 ∨ j = 3 ∨ j = 4 ∨ j = 5 ∨ j = 6 ∨ j = 7 ∨ j = 8 ∨ j = 9 ∨ j = 10 ∨ j = 11 ∨ j = 12 ∨ j = 13 ∨ j = 14 ∨ j = 15 ∨ j = 16 ∨ j = 17 ∨ 18 ≤ j by omega) with rfl | rfl | rfl | rfl | rfl | rfl | rfl | rfl | rfl | rfl | rfl | rfl | rfl | rfl | rfl | rfl | rfl | rfl | hj
      rotate_left 18
      · obtain ⟨u, rfl⟩ : ∃ u, j = u + 18 := ⟨j - 18, by omega⟩
        rfl
      all_goals rfl
    · rcases (show q = 56 ∨ q = 57 ∨ q = 58 ∨ q = 59 ∨ q = 60 ∨ q = 61 ∨ q = 62 ∨ q = 63 ∨ q = 64 ∨ q = 65 by omega) with rfl | rfl | rfl | rfl | rfl | rfl | rfl | rfl | rfl | rfl <;> rfl
  · funext z
    simp only [ax_up, ax_ur, ax_rg, if_neg (show ¬ q = 55 by omega), if_neg (show ¬ q = 56 by omega), if_neg (show ¬ q = 57 by omega), if_neg (show ¬ q = 58 by omega), if_neg (show ¬ q = 59 by omega), if_neg (show ¬ q = 60 by omega), if_neg (show ¬ q = 61 by omega), if_neg (show ¬ q = 62 by omega), if_neg (show ¬ q = 63 by omega), if_neg (show ¬ q = 64 by omega), if_neg (show ¬ q = 65 by omega)]
  · rcases (show q = 55 ∨ q = 56 ∨ q = 57 ∨ q = 58 ∨ q = 59 ∨ q = 60 ∨ q = 61 ∨ q = 62 ∨ q = 63 ∨ q = 64 ∨ q = 65 by omega) with rfl | rfl | rfl | rfl | rfl | rfl | rfl | rfl | rfl | rfl | rfl <;> rfl
  · funext z
    simp only [ax_up, ax_ur, ax_rg, if_neg (show ¬ q = 55 by omega), if_neg (show ¬ q = 56 by omega), if_neg (show ¬ q = 57 by omega), if_neg (show ¬ q = 58 by omega), if_neg (show ¬ q = 59 by omega), if_neg (show ¬ q = 60 by omega), if_neg (show ¬ q = 61 by omega), if_neg (show ¬ q = 62 by omega), if_neg (show ¬ q = 63 by omega), if_neg (show ¬ q = 64 by omega), if_neg (show ¬ q = 65 by omega)]
  · rcases (show q = 55 ∨ 56 ≤ q by omega) with rfl | q3
    · funext j
      rcases (show j = 0 ∨ j = 1 ∨ j = 2 ∨ j = 3 ∨ j = 4 ∨ j = 5 ∨ j = 6 ∨ j = 7 ∨ j = 8 ∨ j = 9 ∨ j = 10 ∨ j = 11 ∨ j = 12 ∨ j = 13 ∨ j = 14 ∨ j = 15 ∨ j = 16 ∨ j = 17 ∨ 18 ≤ j by omega) with rfl | rfl | rfl | rfl | rfl | rfl | rfl | rfl | rfl | rfl | rfl | rfl | rfl | rfl | rfl | rfl | rfl | rfl | hj
      rotate_left 18
      · obtain ⟨u, rfl⟩ : ∃ u, j = u + 18 := ⟨j - 18, by omega⟩
        rfl
      all_goals rfl
    · rcases (show q = 56 ∨ q = 57 ∨ q = 58 ∨ q = 59 ∨ q = 60 ∨ q = 61 ∨ q = 62 ∨ q = 63 ∨ q = 64 ∨ q = 65 by omega) with rfl | rfl | rfl | rfl | rfl | rfl | rfl | rfl | rfl | rfl <;> rfl
theorem c_Town_init_81 (hok : ax_Xok E) : ax_C E l (d + 2) m_Town_init [.inr (.inr (81))] (ax_z 81 82 i lo r) (q_in L 81 92 92 i lo r) := by
  refine g_Town_init hok ?_
  refine f_Town_init rfl ?_
  simp only [x_nil, x_iconst, x_bipush, x_sipush, x_ldc, x_ldcw, x_lconst, x_ldc2, x_iload_n0, x_lload_n0, x_aload_n0, x_istore_n0, x_astore_n0, x_lstore_n0, x_iinc_0, x_iload_n1, x_lload_n1, x_aload_n1, x_istore_n1, x_astore_n1, x_lstore_n1, x_iinc_1, x_iload_n2, x_lload_n2, x_aload_n2, x_istore_n2, x_astore_n2, x_lstore_n2, x_iinc_2, x_iload_n3, x_lload_n3, x_aload_n3, x_istore_n3, x_astore_n3, x_lstore_n3, x_iinc_3, x_iload_4, x_lload_4, x_aload_4, x_istore_4, x_astore_4, x_lstore_4, x_iinc_4, x_iload_5, x_lload_5, x_aload_5, x_istore_5, x_astore_5, x_lstore_5, x_iinc_5, x_iload_6, x_lload_6, x_aload_6, x_istore_6, x_astore_6, x_lstore_6, x_iinc_6, x_iload_7, x_lload_7, x_aload_7, x_istore_7, x_astore_7, x_lstore_7, x_iinc_7, x_iload_8, x_lload_8, x_aload_8, x_istore_8, x_astore_8, x_lstore_8, x_iinc_8, x_iload_9, x_lload_9, x_aload_9, x_istore_9, x_astore_9, x_lstore_9, x_iinc_9, x_iload_10, x_lload_10, x_aload_10, x_istore_10, x_astore_10, x_lstore_10, x_iinc_10, x_iload_11, x_lload_11, x_aload_11, x_istore_11, x_astore_11, x_lstore_11, x_iinc_11, x_iload_12, x_lload_12, x_aload_12, x_istore_12, x_astore_12, x_lstore_12, x_iinc_12, x_iload_13, x_lload_13, x_aload_13, x_istore_13, x_astore_13, x_lstore_13, x_iinc_13, x_iadd, x_isub, x_imul, x_iand, x_ior, x_ixor, x_ishl, x_ishr, x_iushr, x_ladd, x_lsub, x_lmul, x_land, x_idiv, x_irem, x_ldiv, x_lrem, x_ineg, x_lneg, x_lcmp, x_i2l, x_l2i, x_dupi, x_dupr, x_dup2, x_popi, x_popr, x_goto, x_ifeq, x_ifne, x_iflt, x_ifge, x_ifgt, x_ifle, x_iceq, x_icne, x_iclt, x_icge, x_icgt, x_icle, x_tsw, x_lsw, x_iret, x_lret, x_ret, x_getr, x_geti0, x_geti1, x_puti, x_putz, x_putr, x_iald, x_bald, x_lald, x_iast, x_bast, x_last, x_alen0, x_alen1, x_new, x_newa, x_iv0, x_is0, x_ii0_2, x_ii0_4, x_iv1, x_is1, x_ii1_2, x_ii1_4, x_iv2, x_is2, x_ii2_2, x_ii2_4, x_iv3, x_is3, x_iv4, x_is4, x_iv5, x_is5, x_iv6, x_is6, x_iv7, x_is7, x_obj, x_copy, ax_il_i, ax_il_r, ax_il_n, ax_il_l, ax_sz_0, ax_sz_i, ax_sz_r, ax_sz_l, Nat.reduceAdd, Bool.false_eq_true, ↓reduceIte, true_and, and_true, Option.toList_some, Option.toList_none, List.nil_append, List.cons_append, Nat.reduceEqDiff, Nat.reduceLeDiff, Nat.le_refl, false_implies, implies_true, Nat.zero_le, Nat.add_zero, forall_const, Nat.reduceSub, Nat.succ_ne_zero, ne_eq, not_false_eq_true, reduceCtorEq, ie_10, ie_01, not_true_eq_false, not_false_eq_true, true_implies, false_implies, implies_true, and_self, and_true, true_and, true_or, or_true, sc_8, sc_9, sc_10, sc_11, sc_12, sc_13, sc_14, sc_15, sc_16, sc_17, sc_18, sc_19, sc_20, sc_21, sc_22, sc_23, sc_24, sc_25, sc_26, sc_27, sc_28, sc_29, sc_30, sc_31, sc_32, sc_33, sc_34, sc_35, sc_36, sc_37, sc_38, sc_39, sc_40, sc_41, sc_42, sc_43, sc_44, sc_45, sc_46, sc_47, sc_48, sc_49, sc_50, sc_51, sc_52, sc_53, sc_54, sc_55, sc_56, sc_57, sc_58, sc_59, sc_60, sc_61, sc_62, sc_63, sc_64, sc_65, sc_66, sc_67, sc_68, sc_69, sc_70, sc_71, sc_72, sc_73, sc_74, sc_75, sc_76, sc_77, sc_78, sc_79, sc_80, sc_81, sc_82, sc_83, sc_84, sc_85, sc_86, sc_87, sc_88, sc_89, sc_90, sc_91, sc_92, sc_93, sc_94, sc_95, sc_96, sc_97, sc_98, sc_99, sc_100, sc_101, sc_102, sc_103, sc_104, sc_105, sc_106, sc_107, sc_108, sc_109, sc_110, sc_111, sc_112, sc_113, sc_114, sc_115, sc_116, sc_117, sc_118, sc_119, sc_120, sc_121, sc_122, sc_123, sc_124, sc_125, sc_126, sc_127, sc_128, sc_129, sc_130, sc_131, sc_132, sc_133, sc_134, sc_135, sc_136, sc_137, sc_138, sc_139, sc_140, sc_141, sc_142, sc_143, sc_144, sc_145, sc_146, sc_147, sc_148, sc_149, sc_150, sc_151, sc_152, sc_153, sc_154, sc_155, sc_156, sc_157, sc_158, sc_159, sc_160, sc_161, sc_162, sc_163, sc_164, sc_165, ax_z]
  repeat (first | refine And.intro (by decide) ?_ | refine And.intro (And.intro (by decide) (by decide)) ?_)
  refine q_mk (rg_eq (fun q hq => ?_) (fun q q1 q2 => ?_)) (rg_eq (fun q hq => ?_) (fun q q1 q2 => ?_)) (rg_eq (fun q hq => ?_) (fun q q1 q2 => ?_))
  · funext z
    simp only [ax_up, ax_ur, ax_rg, if_neg (show ¬ q = 81 by omega), if_neg (show ¬ q = 82 by omega), if_neg (show ¬ q = 83 by omega), if_neg (show ¬ q = 84 by omega), if_neg (show ¬ q = 85 by omega), if_neg (show ¬ q = 86 by omega), if_neg (show ¬ q = 87 by omega), if_neg (show ¬ q = 88 by omega), if_neg (show ¬ q = 89 by omega), if_neg (show ¬ q = 90 by omega), if_neg (show ¬ q = 91 by omega)]
  · rcases (show q = 81 ∨ 82 ≤ q by omega) with rfl | q3
    · funext j
      rcases (show j = 0 ∨ j = 1 ∨ j = 2 ∨ j = 3 ∨ j = 4 ∨ j = 5 ∨ j = 6 ∨ j = 7 ∨ j = 8 ∨ j = 9 ∨ j = 10 ∨ j = 11 ∨ j = 12 ∨ j = 13 ∨ j = 14 ∨ j = 15 ∨ j = 16 ∨ j = 17 ∨ 18 ≤ j by omega) with rfl | rfl | rfl | rfl | rfl | rfl | rfl | rfl | rfl | rfl | rfl | rfl | rfl | rfl | rfl | rfl | rfl | rfl | hj
      rotate_left 18
      · obtain ⟨u, rfl⟩ : ∃ u, j = u + 18 := ⟨j - 18, by omega⟩
        rfl
      all_goals rfl
    · rcases (show q = 82 ∨ q = 83 ∨ q = 84 ∨ q = 85 ∨ q = 86 ∨ q = 87 ∨ q = 88 ∨ q = 89 ∨ q = 90 ∨ q = 91 by omega) with rfl | rfl | rfl | rfl | rfl | rfl | rfl | rfl | rfl | rfl <;> rfl
  · funext z
    simp only [ax_up, ax_ur, ax_rg, if_neg (show ¬ q = 81 by omega), if_neg (show ¬ q = 82 by omega), if_neg (show ¬ q = 83 by omega), if_neg (show ¬ q = 84 by omega), if_neg (show ¬ q = 85 by omega), if_neg (show ¬ q = 86 by omega), if_neg (show ¬ q = 87 by omega), if_neg (show ¬ q = 88 by omega), if_neg (show ¬ q = 89 by omega), if_neg (show ¬ q = 90 by omega), if_neg (show ¬ q = 91 by omega)]
  · rcases (show q = 81 ∨ q = 82 ∨ q = 83 ∨ q = 84 ∨ q = 85 ∨ q = 86 ∨ q = 87 ∨ q = 88 ∨ q = 89 ∨ q = 90 ∨ q = 91 by omega) with rfl | rfl | rfl | rfl | rfl | rfl | rfl | rfl | rfl | rfl | rfl <;> rfl
  · funext z
    simp only [ax_up, ax_ur, ax_rg, if_neg (show ¬ q = 81 by omega), if_neg (show ¬ q = 82 by omega), if_neg (show ¬ q = 83 by omega), if_neg (show ¬ q = 84 by omega), if_neg (show ¬ q = 85 by omega), if_neg (show ¬ q = 86 by omega), if_neg (show ¬ q = 87 by omega), if_neg (show ¬ q = 88 by omega), if_neg (show ¬ q = 89 by omega), if_neg (show ¬ q = 90 by omega), if_neg (show ¬ q = 91 by omega)]
  · rcases (show q = 81 ∨ 82 ≤ q by omega) with rfl | q3
    · funext j
      rcases (show j = 0 ∨ j = 1 ∨ j = 2 ∨ j = 3 ∨ j = 4 ∨ j = 5 ∨ j = 6 ∨ j = 7 ∨ j = 8 ∨ j = 9 ∨ j = 10 ∨ j = 11 ∨ j = 12 ∨ j = 13 ∨ j = 14 ∨ j = 15 ∨ j = 16 ∨ j = 17 ∨ 18 ≤ j by omega) with rfl | rfl | rfl | rfl | rfl | rfl | rfl | rfl | rfl | rfl | rfl | rfl | rfl | rfl | rfl | rfl | rfl | rfl | hj
      rotate_left 18
      · obtain ⟨u, rfl⟩ : ∃ u, j = u + 18 := ⟨j - 18, by omega⟩
        rfl
      all_goals rfl
    · rcases (show q = 82 ∨ q = 83 ∨ q = 84 ∨ q = 85 ∨ q = 86 ∨ q = 87 ∨ q = 88 ∨ q = 89 ∨ q = 90 ∨ q = 91 by omega) with rfl | rfl | rfl | rfl | rfl | rfl | rfl | rfl | rfl | rfl <;> rfl
theorem c_Town_init_104 (hok : ax_Xok E) : ax_C E l (d + 2) m_Town_init [.inr (.inr (104))] (ax_z 104 105 i lo r) (q_in L 104 115 115 i lo r) := by
  refine g_Town_init hok ?_
  refine f_Town_init rfl ?_
  simp only [x_nil, x_iconst, x_bipush, x_sipush, x_ldc, x_ldcw, x_lconst, x_ldc2, x_iload_n0, x_lload_n0, x_aload_n0, x_istore_n0, x_astore_n0, x_lstore_n0, x_iinc_0, x_iload_n1, x_lload_n1, x_aload_n1, x_istore_n1, x_astore_n1, x_lstore_n1, x_iinc_1, x_iload_n2, x_lload_n2, x_aload_n2, x_istore_n2, x_astore_n2, x_lstore_n2, x_iinc_2, x_iload_n3, x_lload_n3, x_aload_n3, x_istore_n3, x_astore_n3, x_lstore_n3, x_iinc_3, x_iload_4, x_lload_4, x_aload_4, x_istore_4, x_astore_4, x_lstore_4, x_iinc_4, x_iload_5, x_lload_5, x_aload_5, x_istore_5, x_astore_5, x_lstore_5, x_iinc_5, x_iload_6, x_lload_6, x_aload_6, x_istore_6, x_astore_6, x_lstore_6, x_iinc_6, x_iload_7, x_lload_7, x_aload_7, x_istore_7, x_astore_7, x_lstore_7, x_iinc_7, x_iload_8, x_lload_8, x_aload_8, x_istore_8, x_astore_8, x_lstore_8, x_iinc_8, x_iload_9, x_lload_9, x_aload_9, x_istore_9, x_astore_9, x_lstore_9, x_iinc_9, x_iload_10, x_lload_10, x_aload_10, x_istore_10, x_astore_10, x_lstore_10, x_iinc_10, x_iload_11, x_lload_11, x_aload_11, x_istore_11, x_astore_11, x_lstore_11, x_iinc_11, x_iload_12, x_lload_12, x_aload_12, x_istore_12, x_astore_12, x_lstore_12, x_iinc_12, x_iload_13, x_lload_13, x_aload_13, x_istore_13, x_astore_13, x_lstore_13, x_iinc_13, x_iadd, x_isub, x_imul, x_iand, x_ior, x_ixor, x_ishl, x_ishr, x_iushr, x_ladd, x_lsub, x_lmul, x_land, x_idiv, x_irem, x_ldiv, x_lrem, x_ineg, x_lneg, x_lcmp, x_i2l, x_l2i, x_dupi, x_dupr, x_dup2, x_popi, x_popr, x_goto, x_ifeq, x_ifne, x_iflt, x_ifge, x_ifgt, x_ifle, x_iceq, x_icne, x_iclt, x_icge, x_icgt, x_icle, x_tsw, x_lsw, x_iret, x_lret, x_ret, x_getr, x_geti0, x_geti1, x_puti, x_putz, x_putr, x_iald, x_bald, x_lald, x_iast, x_bast, x_last, x_alen0, x_alen1, x_new, x_newa, x_iv0, x_is0, x_ii0_2, x_ii0_4, x_iv1, x_is1, x_ii1_2, x_ii1_4, x_iv2, x_is2, x_ii2_2, x_ii2_4, x_iv3, x_is3, x_iv4, x_is4, x_iv5, x_is5, x_iv6, x_is6, x_iv7, x_is7, x_obj, x_copy, ax_il_i, ax_il_r, ax_il_n, ax_il_l, ax_sz_0, ax_sz_i, ax_sz_r, ax_sz_l, Nat.reduceAdd, Bool.false_eq_true, ↓reduceIte, true_and, and_true, Option.toList_some, Option.toList_none, List.nil_append, List.cons_append, Nat.reduceEqDiff, Nat.reduceLeDiff, Nat.le_refl, false_implies, implies_true, Nat.zero_le, Nat.add_zero, forall_const, Nat.reduceSub, Nat.succ_ne_zero, ne_eq, not_false_eq_true, reduceCtorEq, ie_10, ie_01, not_true_eq_false, not_false_eq_true, true_implies, false_implies, implies_true, and_self, and_true, true_and, true_or, or_true, sc_8, sc_9, sc_10, sc_11, sc_12, sc_13, sc_14, sc_15, sc_16, sc_17, sc_18, sc_19, sc_20, sc_21, sc_22, sc_23, sc_24, sc_25, sc_26, sc_27, sc_28, sc_29, sc_30, sc_31, sc_32, sc_33, sc_34, sc_35, sc_36, sc_37, sc_38, sc_39, sc_40, sc_41, sc_42, sc_43, sc_44, sc_45, sc_46, sc_47, sc_48, sc_49, sc_50, sc_51, sc_52, sc_53, sc_54, sc_55, sc_56, sc_57, sc_58, sc_59, sc_60, sc_61, sc_62, sc_63, sc_64, sc_65, sc_66, sc_67, sc_68, sc_69, sc_70, sc_71, sc_72, sc_73, sc_74, sc_75, sc_76, sc_77, sc_78, sc_79, sc_80, sc_81, sc_82, sc_83, sc_84, sc_85, sc_86, sc_87, sc_88, sc_89, sc_90, sc_91, sc_92, sc_93, sc_94, sc_95, sc_96, sc_97, sc_98, sc_99, sc_100, sc_101, sc_102, sc_103, sc_104, sc_105, sc_106, sc_107, sc_108, sc_109, sc_110, sc_111, sc_112, sc_113, sc_114, sc_115, sc_116, sc_117, sc_118, sc_119, sc_120, sc_121, sc_122, sc_123, sc_124, sc_125, sc_126, sc_127, sc_128, sc_129, sc_130, sc_131, sc_132, sc_133, sc_134, sc_135, sc_136, sc_137, sc_138, sc_139, sc_140, sc_141, sc_142, sc_143, sc_144, sc_145, sc_146, sc_147, sc_148, sc_149, sc_150, sc_151, sc_152, sc_153, sc_154, sc_155, sc_156, sc_157, sc_158, sc_159, sc_160, sc_161, sc_162, sc_163, sc_164, sc_165, ax_z]
  repeat (first | refine And.intro (by decide) ?_ | refine And.intro (And.intro (by decide) (by decide)) ?_)
  refine q_mk (rg_eq (fun q hq => ?_) (fun q q1 q2 => ?_)) (rg_eq (fun q hq => ?_) (fun q q1 q2 => ?_)) (rg_eq (fun q hq => ?_) (fun q q1 q2 => ?_))
  · funext z
    simp only [ax_up, ax_ur, ax_rg, if_neg (show ¬ q = 104 by omega), if_neg (show ¬ q = 105 by omega), if_neg (show ¬ q = 106 by omega), if_neg (show ¬ q = 107 by omega), if_neg (show ¬ q = 108 by omega), if_neg (show ¬ q = 109 by omega), if_neg (show ¬ q = 110 by omega), if_neg (show ¬ q = 111 by omega), if_neg (show ¬ q = 112 by omega), if_neg (show ¬ q = 113 by omega), if_neg (show ¬ q = 114 by omega)]
  · rcases (show q = 104 ∨ 105 ≤ q by omega) with rfl | q3
    · funext j
      rcases (show j = 0 ∨ j = 1 ∨ j = 2 ∨ j = 3 ∨ j = 4 ∨ j = 5 ∨ j = 6 ∨ j = 7 ∨ j = 8 ∨ j = 9 ∨ j = 10 ∨ j = 11 ∨ j = 12 ∨ j = 13 ∨ j = 14 ∨ j = 15 ∨ j = 16 ∨ j = 17 ∨ 18 ≤ j by omega) with rfl | rfl | rfl | rfl | rfl | rfl | rfl | rfl | rfl | rfl | rfl | rfl | rfl | rfl | rfl | rfl | rfl | rfl | hj
      rotate_left 18
      · obtain ⟨u, rfl⟩ : ∃ u, j = u + 18 := ⟨j - 18, by omega⟩
        rfl
      all_goals rfl
    · rcases (show q = 105 ∨ q = 106 ∨ q = 107 ∨ q = 108 ∨ q = 109 ∨ q = 110 ∨ q = 111 ∨ q = 112 ∨ q = 113 ∨ q = 114 by omega) with rfl | rfl | rfl | rfl | rfl | rfl | rfl | rfl | rfl | rfl <;> rfl
  · funext z
    simp only [ax_up, ax_ur, ax_rg, if_neg (show ¬ q = 104 by omega), if_neg (show ¬ q = 105 by omega), if_neg (show ¬ q = 106 by omega), if_neg (show ¬ q = 107 by omega), if_neg (show ¬ q = 108 by omega), if_neg (show ¬ q = 109 by omega), if_neg (show ¬ q = 110 by omega), if_neg (show ¬ q = 111 by omega), if_neg (show ¬ q = 112 by omega), if_neg (show ¬ q = 113 by omega), if_neg (show ¬ q = 114 by omega)]
  · rcases (show q = 104 ∨ q = 105 ∨ q = 106 ∨ q = 107 ∨ q = 108 ∨ q = 109 ∨ q = 110 ∨ q = 111 ∨ q = 112 ∨ q = 113 ∨ q = 114 by omega) with rfl | rfl | rfl | rfl | rfl | rfl | rfl | rfl | rfl | rfl | rfl <;> rfl
  · funext z
    simp only [ax_up, ax_ur, ax_rg, if_neg (show ¬ q = 104 by omega), if_neg (show ¬ q = 105 by omega), if_neg (show ¬ q = 106 by omega), if_neg (show ¬ q = 107 by omega), if_neg (show ¬ q = 108 by omega), if_neg (show ¬ q = 109 by omega), if_neg (show ¬ q = 110 by omega), if_neg (show ¬ q = 111 by omega), if_neg (show ¬ q = 112 by omega), if_neg (show ¬ q = 113 by omega), if_neg (show ¬ q = 114 by omega)]
  · rcases (show q = 104 ∨ 105 ≤ q by omega) with rfl | q3
    · funext j
      rcases (show j = 0 ∨ j = 1 ∨ j = 2 ∨ j = 3 ∨ j = 4 ∨ j = 5 ∨ j = 6 ∨ j = 7 ∨ j = 8 ∨ j = 9 ∨ j = 10 ∨ j = 11 ∨ j = 12 ∨ j = 13 ∨ j = 14 ∨ j = 15 ∨ j = 16 ∨ j = 17 ∨ 18 ≤ j by omega) with rfl | rfl | rfl | rfl | rfl | rfl | rfl | rfl | rfl | rfl | rfl | rfl | rfl | rfl | rfl | rfl | rfl | rfl | hj
      rotate_left 18
      · obtain ⟨u, rfl⟩ : ∃ u, j = u + 18 := ⟨j - 18, by omega⟩
        rfl
      all_goals rfl
    · rcases (show q = 105 ∨ q = 106 ∨ q = 107 ∨ q = 108 ∨ q = 109 ∨ q = 110 ∨ q = 111 ∨ q = 112 ∨ q = 113 ∨ q = 114 by omega) with rfl | rfl | rfl | rfl | rfl | rfl | rfl | rfl | rfl | rfl <;> rfl
theorem c_Laws_init_22 (hok : ax_Xok E) : ax_C E l (d + 2) m_Laws_init [.inr (.inr (22))] (ax_z 22 23 i lo r) (q_in L 22 29 29 i lo r) := by
  refine g_Laws_init hok ?_
  refine f_Laws_init rfl ?_
  simp only [x_nil, x_iconst, x_bipush, x_sipush, x_ldc, x_ldcw, x_lconst, x_ldc2, x_iload_n0, x_lload_n0, x_aload_n0, x_istore_n0, x_astore_n0, x_lstore_n0, x_iinc_0, x_iload_n1, x_lload_n1, x_aload_n1, x_istore_n1, x_astore_n1, x_lstore_n1, x_iinc_1, x_iload_n2, x_lload_n2, x_aload_n2, x_istore_n2, x_astore_n2, x_lstore_n2, x_iinc_2, x_iload_n3, x_lload_n3, x_aload_n3, x_istore_n3, x_astore_n3, x_lstore_n3, x_iinc_3, x_iload_4, x_lload_4, x_aload_4, x_istore_4, x_astore_4, x_lstore_4, x_iinc_4, x_iload_5, x_lload_5, x_aload_5, x_istore_5, x_astore_5, x_lstore_5, x_iinc_5, x_iload_6, x_lload_6, x_aload_6, x_istore_6, x_astore_6, x_lstore_6, x_iinc_6, x_iload_7, x_lload_7, x_aload_7, x_istore_7, x_astore_7, x_lstore_7, x_iinc_7, x_iload_8, x_lload_8, x_aload_8, x_istore_8, x_astore_8, x_lstore_8, x_iinc_8, x_iload_9, x_lload_9, x_aload_9, x_istore_9, x_astore_9, x_lstore_9, x_iinc_9, x_iload_10, x_lload_10, x_aload_10, x_istore_10, x_astore_10, x_lstore_10, x_iinc_10, x_iload_11, x_lload_11, x_aload_11, x_istore_11, x_astore_11, x_lstore_11, x_iinc_11, x_iload_12, x_lload_12, x_aload_12, x_istore_12, x_astore_12, x_lstore_12, x_iinc_12, x_iload_13, x_lload_13, x_aload_13, x_istore_13, x_astore_13, x_lstore_13, x_iinc_13, x_iadd, x_isub, x_imul, x_iand, x_ior, x_ixor, x_ishl, x_ishr, x_iushr, x_ladd, x_lsub, x_lmul, x_land, x_idiv, x_irem, x_ldiv, x_lrem, x_ineg, x_lneg, x_lcmp, x_i2l, x_l2i, x_dupi, x_dupr, x_dup2, x_popi, x_popr, x_goto, x_ifeq, x_ifne, x_iflt, x_ifge, x_ifgt, x_ifle, x_iceq, x_icne, x_iclt, x_icge, x_icgt, x_icle, x_tsw, x_lsw, x_iret, x_lret, x_ret, x_getr, x_geti0, x_geti1, x_puti, x_putz, x_putr, x_iald, x_bald, x_lald, x_iast, x_bast, x_last, x_alen0, x_alen1, x_new, x_newa, x_iv0, x_is0, x_ii0_2, x_ii0_4, x_iv1, x_is1, x_ii1_2, x_ii1_4, x_iv2, x_is2, x_ii2_2, x_ii2_4, x_iv3, x_is3, x_iv4, x_is4, x_iv5, x_is5, x_iv6, x_is6, x_iv7, x_is7, x_obj, x_copy, ax_il_i, ax_il_r, ax_il_n, ax_il_l, ax_sz_0, ax_sz_i, ax_sz_r, ax_sz_l, Nat.reduceAdd, Bool.false_eq_true, ↓reduceIte, true_and, and_true, Option.toList_some, Option.toList_none, List.nil_append, List.cons_append, Nat.reduceEqDiff, Nat.reduceLeDiff, Nat.le_refl, false_implies, implies_true, Nat.zero_le, Nat.add_zero, forall_const, Nat.reduceSub, Nat.succ_ne_zero, ne_eq, not_false_eq_true, reduceCtorEq, ie_10, ie_01, not_true_eq_false, not_false_eq_true, true_implies, false_implies, implies_true, and_self, and_true, true_and, true_or, or_true, sc_8, sc_9, sc_10, sc_11, sc_12, sc_13, sc_14, sc_15, sc_16, sc_17, sc_18, sc_19, sc_20, sc_21, sc_22, sc_23, sc_24, sc_25, sc_26, sc_27, sc_28, sc_29, sc_30, sc_31, sc_32, sc_33, sc_34, sc_35, sc_36, sc_37, sc_38, sc_39, sc_40, sc_41, sc_42, sc_43, sc_44, sc_45, sc_46, sc_47, sc_48, sc_49, sc_50, sc_51, sc_52, sc_53, sc_54, sc_55, sc_56, sc_57, sc_58, sc_59, sc_60, sc_61, sc_62, sc_63, sc_64, sc_65, sc_66, sc_67, sc_68, sc_69, sc_70, sc_71, sc_72, sc_73, sc_74, sc_75, sc_76, sc_77, sc_78, sc_79, sc_80, sc_81, sc_82, sc_83, sc_84, sc_85, sc_86, sc_87, sc_88, sc_89, sc_90, sc_91, sc_92, sc_93, sc_94, sc_95, sc_96, sc_97, sc_98, sc_99, sc_100, sc_101, sc_102, sc_103, sc_104, sc_105, sc_106, sc_107, sc_108, sc_109, sc_110, sc_111, sc_112, sc_113, sc_114, sc_115, sc_116, sc_117, sc_118, sc_119, sc_120, sc_121, sc_122, sc_123, sc_124, sc_125, sc_126, sc_127, sc_128, sc_129, sc_130, sc_131, sc_132, sc_133, sc_134, sc_135, sc_136, sc_137, sc_138, sc_139, sc_140, sc_141, sc_142, sc_143, sc_144, sc_145, sc_146, sc_147, sc_148, sc_149, sc_150, sc_151, sc_152, sc_153, sc_154, sc_155, sc_156, sc_157, sc_158, sc_159, sc_160, sc_161, sc_162, sc_163, sc_164, sc_165, ax_z]
  repeat (first | refine And.intro (by decide) ?_ | refine And.intro (And.intro (by decide) (by decide)) ?_)
  refine q_mk (rg_eq (fun q hq => ?_) (fun q q1 q2 => ?_)) (rg_eq (fun q hq => ?_) (fun q q1 q2 => ?_)) (rg_eq (fun q hq => ?_) (fun q q1 q2 => ?_))
  · funext z
    simp only [ax_up, ax_ur, ax_rg, if_neg (show ¬ q = 22 by omega), if_neg (show ¬ q = 23 by omega), if_neg (show ¬ q = 24 by omega), if_neg (show ¬ q = 25 by omega), if_neg (show ¬ q = 26 by omega), if_neg (show ¬ q = 27 by omega), if_neg (show ¬ q = 28 by omega)]
  · rcases (show q = 22 ∨ 23 ≤ q by omega) with rfl | q3
    · funext j
      rcases (show j = 0 ∨ j = 1 ∨ j = 2 ∨ j = 3 ∨ j = 4 ∨ j = 5 ∨ j = 6 ∨ 7 ≤ j by omega) with rfl | rfl | rfl | rfl | rfl | rfl | rfl | hj
      rotate_left 7
      · obtain ⟨u, rfl⟩ : ∃ u, j = u + 7 := ⟨j - 7, by omega⟩
        rfl
      all_goals rfl
    · rcases (show q = 23 ∨ q = 24 ∨ q = 25 ∨ q = 26 ∨ q = 27 ∨ q = 28 by omega) with rfl | rfl | rfl | rfl | rfl | rfl <;> rfl
  · funext z
    simp only [ax_up, ax_ur, ax_rg, if_neg (show ¬ q = 22 by omega), if_neg (show ¬ q = 23 by omega), if_neg (show ¬ q = 24 by omega), if_neg (show ¬ q = 25 by omega), if_neg (show ¬ q = 26 by omega), if_neg (show ¬ q = 27 by omega), if_neg (show ¬ q = 28 by omega)]
  · rcases (show q = 22 ∨ q = 23 ∨ q = 24 ∨ q = 25 ∨ q = 26 ∨ q = 27 ∨ q = 28 by omega) with rfl | rfl | rfl | rfl | rfl | rfl | rfl <;> rfl
  · funext z
    simp only [ax_up, ax_ur, ax_rg, if_neg (show ¬ q = 22 by omega), if_neg (show ¬ q = 23 by omega), if_neg (show ¬ q = 24 by omega), if_neg (show ¬ q = 25 by omega), if_neg (show ¬ q = 26 by omega), if_neg (show ¬ q = 27 by omega), if_neg (show ¬ q = 28 by omega)]
  · rcases (show q = 22 ∨ 23 ≤ q by omega) with rfl | q3
    · funext j
      rcases (show j = 0 ∨ j = 1 ∨ j = 2 ∨ j = 3 ∨ j = 4 ∨ j = 5 ∨ j = 6 ∨ 7 ≤ j by omega) with rfl | rfl | rfl | rfl | rfl | rfl | rfl | hj
      rotate_left 7
      · obtain ⟨u, rfl⟩ : ∃ u, j = u + 7 := ⟨j - 7, by omega⟩
        rfl
      all_goals rfl
    · rcases (show q = 23 ∨ q = 24 ∨ q = 25 ∨ q = 26 ∨ q = 27 ∨ q = 28 by omega) with rfl | rfl | rfl | rfl | rfl | rfl <;> rfl
theorem c_Laws_init_66 (hok : ax_Xok E) : ax_C E l (d + 2) m_Laws_init [.inr (.inr (66))] (ax_z 66 67 i lo r) (q_in L 66 73 73 i lo r) := by
  refine g_Laws_init hok ?_
  refine f_Laws_init rfl ?_
  simp only [x_nil, x_iconst, x_bipush, x_sipush, x_ldc, x_ldcw, x_lconst, x_ldc2, x_iload_n0, x_lload_n0, x_aload_n0, x_istore_n0, x_astore_n0, x_lstore_n0, x_iinc_0, x_iload_n1, x_lload_n1, x_aload_n1, x_istore_n1, x_astore_n1, x_lstore_n1, x_iinc_1, x_iload_n2, x_lload_n2, x_aload_n2, x_istore_n2, x_astore_n2, x_lstore_n2, x_iinc_2, x_iload_n3, x_lload_n3, x_aload_n3, x_istore_n3, x_astore_n3, x_lstore_n3, x_iinc_3, x_iload_4, x_lload_4, x_aload_4, x_istore_4, x_astore_4, x_lstore_4, x_iinc_4, x_iload_5, x_lload_5, x_aload_5, x_istore_5, x_astore_5, x_lstore_5, x_iinc_5, x_iload_6, x_lload_6, x_aload_6, x_istore_6, x_astore_6, x_lstore_6, x_iinc_6, x_iload_7, x_lload_7, x_aload_7, x_istore_7, x_astore_7, x_lstore_7, x_iinc_7, x_iload_8, x_lload_8, x_aload_8, x_istore_8, x_astore_8, x_lstore_8, x_iinc_8, x_iload_9, x_lload_9, x_aload_9, x_istore_9, x_astore_9, x_lstore_9, x_iinc_9, x_iload_10, x_lload_10, x_aload_10, x_istore_10, x_astore_10, x_lstore_10, x_iinc_10, x_iload_11, x_lload_11, x_aload_11, x_istore_11, x_astore_11, x_lstore_11, x_iinc_11, x_iload_12, x_lload_12, x_aload_12, x_istore_12, x_astore_12, x_lstore_12, x_iinc_12, x_iload_13, x_lload_13, x_aload_13, x_istore_13, x_astore_13, x_lstore_13, x_iinc_13, x_iadd, x_isub, x_imul, x_iand, x_ior, x_ixor, x_ishl, x_ishr, x_iushr, x_ladd, x_lsub, x_lmul, x_land, x_idiv, x_irem, x_ldiv, x_lrem, x_ineg, x_lneg, x_lcmp, x_i2l, x_l2i, x_dupi, x_dupr, x_dup2, x_popi, x_popr, x_goto, x_ifeq, x_ifne, x_iflt, x_ifge, x_ifgt, x_ifle, x_iceq, x_icne, x_iclt, x_icge, x_icgt, x_icle, x_tsw, x_lsw, x_iret, x_lret, x_ret, x_getr, x_geti0, x_geti1, x_puti, x_putz, x_putr, x_iald, x_bald, x_lald, x_iast, x_bast, x_last, x_alen0, x_alen1, x_new, x_newa, x_iv0, x_is0, x_ii0_2, x_ii0_4, x_iv1, x_is1, x_ii1_2, x_ii1_4, x_iv2, x_is2, x_ii2_2, x_ii2_4, x_iv3, x_is3, x_iv4, x_is4, x_iv5, x_is5, x_iv6, x_is6, x_iv7, x_is7, x_obj, x_copy, ax_il_i, ax_il_r, ax_il_n, ax_il_l, ax_sz_0, ax_sz_i, ax_sz_r, ax_sz_l, Nat.reduceAdd, Bool.false_eq_true, ↓reduceIte, true_and, and_true, Option.toList_some, Option.toList_none, List.nil_append, List.cons_append, Nat.reduceEqDiff, Nat.reduceLeDiff, Nat.le_refl, false_implies, implies_true, Nat.zero_le, Nat.add_zero, forall_const, Nat.reduceSub, Nat.succ_ne_zero, ne_eq, not_false_eq_true, reduceCtorEq, ie_10, ie_01, not_true_eq_false, not_false_eq_true, true_implies, false_implies, implies_true, and_self, and_true, true_and, true_or, or_true, sc_8, sc_9, sc_10, sc_11, sc_12, sc_13, sc_14, sc_15, sc_16, sc_17, sc_18, sc_19, sc_20, sc_21, sc_22, sc_23, sc_24, sc_25, sc_26, sc_27, sc_28, sc_29, sc_30, sc_31, sc_32, sc_33, sc_34, sc_35, sc_36, sc_37, sc_38, sc_39, sc_40, sc_41, sc_42, sc_43, sc_44, sc_45, sc_46, sc_47, sc_48, sc_49, sc_50, sc_51, sc_52, sc_53, sc_54, sc_55, sc_56, sc_57, sc_58, sc_59, sc_60, sc_61, sc_62, sc_63, sc_64, sc_65, sc_66, sc_67, sc_68, sc_69, sc_70, sc_71, sc_72, sc_73, sc_74, sc_75, sc_76, sc_77, sc_78, sc_79, sc_80, sc_81, sc_82, sc_83, sc_84, sc_85, sc_86, sc_87, sc_88, sc_89, sc_90, sc_91, sc_92, sc_93, sc_94, sc_95, sc_96, sc_97, sc_98, sc_99, sc_100, sc_101, sc_102, sc_103, sc_104, sc_105, sc_106, sc_107, sc_108, sc_109, sc_110, sc_111, sc_112, sc_113, sc_114, sc_115, sc_116, sc_117, sc_118, sc_119, sc_120, sc_121, sc_122, sc_123, sc_124, sc_125, sc_126, sc_127, sc_128, sc_129, sc_130, sc_131, sc_132, sc_133, sc_134, sc_135, sc_136, sc_137, sc_138, sc_139, sc_140, sc_141, sc_142, sc_143, sc_144, sc_145, sc_146, sc_147, sc_148, sc_149, sc_150, sc_151, sc_152, sc_153, sc_154, sc_155, sc_156, sc_157, sc_158, sc_159, sc_160, sc_161, sc_162, sc_163, sc_164, sc_165, ax_z]
  repeat (first | refine And.intro (by decide) ?_ | refine And.intro (And.intro (by decide) (by decide)) ?_)
  refine q_mk (rg_eq (fun q hq => ?_) (fun q q1 q2 => ?_)) (rg_eq (fun q hq => ?_) (fun q q1 q2 => ?_)) (rg_eq (fun q hq => ?_) (fun q q1 q2 => ?_))
  · funext z
    simp only [ax_up, ax_ur, ax_rg, if_neg (show ¬ q = 66 by omega), if_neg (show ¬ q = 67 by omega), if_neg (show ¬ q = 68 by omega), if_neg (show ¬ q = 69 by omega), if_neg (show ¬ q = 70 by omega), if_neg (show ¬ q = 71 by omega), if_neg (show ¬ q = 72 by omega)]
  · rcases (show q = 66 ∨ 67 ≤ q by omega) with rfl | q3
    · funext j
      rcases (show j = 0 ∨ j = 1 ∨ j = 2 ∨ j = 3 ∨ j = 4 ∨ j = 5 ∨ j = 6 ∨ 7 ≤ j by omega) with rfl | rfl | rfl | rfl | rfl | rfl | rfl | hj
      rotate_left 7
      · obtain ⟨u, rfl⟩ : ∃ u, j = u + 7 := ⟨j - 7, by omega⟩
        rfl
      all_goals rfl
    · rcases (show q = 67 ∨ q = 68 ∨ q = 69 ∨ q = 70 ∨ q = 71 ∨ q = 72 by omega) with rfl | rfl | rfl | rfl | rfl | rfl <;> rfl
  · funext z
    simp only [ax_up, ax_ur, ax_rg, if_neg (show ¬ q = 66 by omega), if_neg (show ¬ q = 67 by omega), if_neg (show ¬ q = 68 by omega), if_neg (show ¬ q = 69 by omega), if_neg (show ¬ q = 70 by omega), if_neg (show ¬ q = 71 by omega), if_neg (show ¬ q = 72 by omega)]
  · rcases (show q = 66 ∨ q = 67 ∨ q = 68 ∨ q = 69 ∨ q = 70 ∨ q = 71 ∨ q = 72 by omega) with rfl | rfl | rfl | rfl | rfl | rfl | rfl <;> rfl
  · funext z
    simp only [ax_up, ax_ur, ax_rg, if_neg (show ¬ q = 66 by omega), if_neg (show ¬ q = 67 by omega), if_neg (show ¬ q = 68 by omega), if_neg (show ¬ q = 69 by omega), if_neg (show ¬ q = 70 by omega), if_neg (show ¬ q = 71 by omega), if_neg (show ¬ q = 72 by omega)]
  · rcases (show q = 66 ∨ 67 ≤ q by omega) with rfl | q3
    · funext j
      rcases (show j = 0 ∨ j = 1 ∨ j = 2 ∨ j = 3 ∨ j = 4 ∨ j = 5 ∨ j = 6 ∨ 7 ≤ j by omega) with rfl | rfl | rfl | rfl | rfl | rfl | rfl | hj
      rotate_left 7
      · obtain ⟨u, rfl⟩ : ∃ u, j = u + 7 := ⟨j - 7, by omega⟩
        rfl
      all_goals rfl
    · rcases (show q = 67 ∨ q = 68 ∨ q = 69 ∨ q = 70 ∨ q = 71 ∨ q = 72 by omega) with rfl | rfl | rfl | rfl | rfl | rfl <;> rfl
theorem c_Names_init_29 (hok : ax_Xok E) : ax_C E l (d + 2) m_Names_init [.inr (.inr (29))] (ax_z 29 30 i lo r) (q_in L 29 31 31 i lo r) := by
  refine g_Names_init hok ?_
  refine f_Names_init rfl ?_
  simp only [x_nil, x_iconst, x_bipush, x_sipush, x_ldc, x_ldcw, x_lconst, x_ldc2, x_iload_n0, x_lload_n0, x_aload_n0, x_istore_n0, x_astore_n0, x_lstore_n0, x_iinc_0, x_iload_n1, x_lload_n1, x_aload_n1, x_istore_n1, x_astore_n1, x_lstore_n1, x_iinc_1, x_iload_n2, x_lload_n2, x_aload_n2, x_istore_n2, x_astore_n2, x_lstore_n2, x_iinc_2, x_iload_n3, x_lload_n3, x_aload_n3, x_istore_n3, x_astore_n3, x_lstore_n3, x_iinc_3, x_iload_4, x_lload_4, x_aload_4, x_istore_4, x_astore_4, x_lstore_4, x_iinc_4, x_iload_5, x_lload_5, x_aload_5, x_istore_5, x_astore_5, x_lstore_5, x_iinc_5, x_iload_6, x_lload_6, x_aload_6, x_istore_6, x_astore_6, x_lstore_6, x_iinc_6, x_iload_7, x_lload_7, x_aload_7, x_istore_7, x_astore_7, x_lstore_7, x_iinc_7, x_iload_8, x_lload_8, x_aload_8, x_istore_8, x_astore_8, x_lstore_8, x_iinc_8, x_iload_9, x_lload_9, x_aload_9, x_istore_9, x_astore_9, x_lstore_9, x_iinc_9, x_iload_10, x_lload_10, x_aload_10, x_istore_10, x_astore_10, x_lstore_10, x_iinc_10, x_iload_11, x_lload_11, x_aload_11, x_istore_11, x_astore_11, x_lstore_11, x_iinc_11, x_iload_12, x_lload_12, x_aload_12, x_istore_12, x_astore_12, x_lstore_12, x_iinc_12, x_iload_13, x_lload_13, x_aload_13, x_istore_13, x_astore_13, x_lstore_13, x_iinc_13, x_iadd, x_isub, x_imul, x_iand, x_ior, x_ixor, x_ishl, x_ishr, x_iushr, x_ladd, x_lsub, x_lmul, x_land, x_idiv, x_irem, x_ldiv, x_lrem, x_ineg, x_lneg, x_lcmp, x_i2l, x_l2i, x_dupi, x_dupr, x_dup2, x_popi, x_popr, x_goto, x_ifeq, x_ifne, x_iflt, x_ifge, x_ifgt, x_ifle, x_iceq, x_icne, x_iclt, x_icge, x_icgt, x_icle, x_tsw, x_lsw, x_iret, x_lret, x_ret, x_getr, x_geti0, x_geti1, x_puti, x_putz, x_putr, x_iald, x_bald, x_lald, x_iast, x_bast, x_last, x_alen0, x_alen1, x_new, x_newa, x_iv0, x_is0, x_ii0_2, x_ii0_4, x_iv1, x_is1, x_ii1_2, x_ii1_4, x_iv2, x_is2, x_ii2_2, x_ii2_4, x_iv3, x_is3, x_iv4, x_is4, x_iv5, x_is5, x_iv6, x_is6, x_iv7, x_is7, x_obj, x_copy, ax_il_i, ax_il_r, ax_il_n, ax_il_l, ax_sz_0, ax_sz_i, ax_sz_r, ax_sz_l, Nat.reduceAdd, Bool.false_eq_true, ↓reduceIte, true_and, and_true, Option.toList_some, Option.toList_none, List.nil_append, List.cons_append, Nat.reduceEqDiff, Nat.reduceLeDiff, Nat.le_refl, false_implies, implies_true, Nat.zero_le, Nat.add_zero, forall_const, Nat.reduceSub, Nat.succ_ne_zero, ne_eq, not_false_eq_true, reduceCtorEq, ie_10, ie_01, not_true_eq_false, not_false_eq_true, true_implies, false_implies, implies_true, and_self, and_true, true_and, true_or, or_true, sc_8, sc_9, sc_10, sc_11, sc_12, sc_13, sc_14, sc_15, sc_16, sc_17, sc_18, sc_19, sc_20, sc_21, sc_22, sc_23, sc_24, sc_25, sc_26, sc_27, sc_28, sc_29, sc_30, sc_31, sc_32, sc_33, sc_34, sc_35, sc_36, sc_37, sc_38, sc_39, sc_40, sc_41, sc_42, sc_43, sc_44, sc_45, sc_46, sc_47, sc_48, sc_49, sc_50, sc_51, sc_52, sc_53, sc_54, sc_55, sc_56, sc_57, sc_58, sc_59, sc_60, sc_61, sc_62, sc_63, sc_64, sc_65, sc_66, sc_67, sc_68, sc_69, sc_70, sc_71, sc_72, sc_73, sc_74, sc_75, sc_76, sc_77, sc_78, sc_79, sc_80, sc_81, sc_82, sc_83, sc_84, sc_85, sc_86, sc_87, sc_88, sc_89, sc_90, sc_91, sc_92, sc_93, sc_94, sc_95, sc_96, sc_97, sc_98, sc_99, sc_100, sc_101, sc_102, sc_103, sc_104, sc_105, sc_106, sc_107, sc_108, sc_109, sc_110, sc_111, sc_112, sc_113, sc_114, sc_115, sc_116, sc_117, sc_118, sc_119, sc_120, sc_121, sc_122, sc_123, sc_124, sc_125, sc_126, sc_127, sc_128, sc_129, sc_130, sc_131, sc_132, sc_133, sc_134, sc_135, sc_136, sc_137, sc_138, sc_139, sc_140, sc_141, sc_142, sc_143, sc_144, sc_145, sc_146, sc_147, sc_148, sc_149, sc_150, sc_151, sc_152, sc_153, sc_154, sc_155, sc_156, sc_157, sc_158, sc_159, sc_160, sc_161, sc_162, sc_163, sc_164, sc_165, ax_z]
  repeat (first | refine And.intro (by decide) ?_ | refine And.intro (And.intro (by decide) (by decide)) ?_)
  refine q_mk (rg_eq (fun q hq => ?_) (fun q q1 q2 => ?_)) (rg_eq (fun q hq => ?_) (fun q q1 q2 => ?_)) (rg_eq (fun q hq => ?_) (fun q q1 q2 => ?_))
  · funext z
    simp only [ax_up, ax_ur, ax_rg, if_neg (show ¬ q = 29 by omega), if_neg (show ¬ q = 30 by omega)]
  · rcases (show q = 29 ∨ 30 ≤ q by omega) with rfl | q3
    · funext j
      rcases (show j = 0 ∨ j = 1 ∨ 2 ≤ j by omega) with rfl | rfl | hj
      rotate_left 2
      · obtain ⟨u, rfl⟩ : ∃ u, j = u + 2 := ⟨j - 2, by omega⟩
        rfl
      all_goals rfl
    · rcases (show q = 30 by omega) with rfl <;> rfl
  · funext z
    simp only [ax_up, ax_ur, ax_rg, if_neg (show ¬ q = 29 by omega), if_neg (show ¬ q = 30 by omega)]
  · rcases (show q = 29 ∨ q = 30 by omega) with rfl | rfl <;> rfl
  · funext z
    simp only [ax_up, ax_ur, ax_rg, if_neg (show ¬ q = 29 by omega), if_neg (show ¬ q = 30 by omega)]
  · rcases (show q = 29 ∨ 30 ≤ q by omega) with rfl | q3
    · funext j
      rcases (show j = 0 ∨ j = 1 ∨ 2 ≤ j by omega) with rfl | rfl | hj
      rotate_left 2
      · obtain ⟨u, rfl⟩ : ∃ u, j = u + 2 := ⟨j - 2, by omega⟩
        rfl
      all_goals rfl
    · rcases (show q = 30 by omega) with rfl <;> rfl
theorem c_Names_init_31 (hok : ax_Xok E) : ax_C E l (d + 2) m_Names_init [.inr (.inr (31))] (ax_z 31 32 i lo r) (q_in L 31 33 33 i lo r) := by
  refine g_Names_init hok ?_
  refine f_Names_init rfl ?_
  simp only [x_nil, x_iconst, x_bipush, x_sipush, x_ldc, x_ldcw, x_lconst, x_ldc2, x_iload_n0, x_lload_n0, x_aload_n0, x_istore_n0, x_astore_n0, x_lstore_n0, x_iinc_0, x_iload_n1, x_lload_n1, x_aload_n1, x_istore_n1, x_astore_n1, x_lstore_n1, x_iinc_1, x_iload_n2, x_lload_n2, x_aload_n2, x_istore_n2, x_astore_n2, x_lstore_n2, x_iinc_2, x_iload_n3, x_lload_n3, x_aload_n3, x_istore_n3, x_astore_n3, x_lstore_n3, x_iinc_3, x_iload_4, x_lload_4, x_aload_4, x_istore_4, x_astore_4, x_lstore_4, x_iinc_4, x_iload_5, x_lload_5, x_aload_5, x_istore_5, x_astore_5, x_lstore_5, x_iinc_5, x_iload_6, x_lload_6, x_aload_6, x_istore_6, x_astore_6, x_lstore_6, x_iinc_6, x_iload_7, x_lload_7, x_aload_7, x_istore_7, x_astore_7, x_lstore_7, x_iinc_7, x_iload_8, x_lload_8, x_aload_8, x_istore_8, x_astore_8, x_lstore_8, x_iinc_8, x_iload_9, x_lload_9, x_aload_9, x_istore_9, x_astore_9, x_lstore_9, x_iinc_9, x_iload_10, x_lload_10, x_aload_10, x_istore_10, x_astore_10, x_lstore_10, x_iinc_10, x_iload_11, x_lload_11, x_aload_11, x_istore_11, x_astore_11, x_lstore_11, x_iinc_11, x_iload_12, x_lload_12, x_aload_12, x_istore_12, x_astore_12, x_lstore_12, x_iinc_12, x_iload_13, x_lload_13, x_aload_13, x_istore_13, x_astore_13, x_lstore_13, x_iinc_13, x_iadd, x_isub, x_imul, x_iand, x_ior, x_ixor, x_ishl, x_ishr, x_iushr, x_ladd, x_lsub, x_lmul, x_land, x_idiv, x_irem, x_ldiv, x_lrem, x_ineg, x_lneg, x_lcmp, x_i2l, x_l2i, x_dupi, x_dupr, x_dup2, x_popi, x_popr, x_goto, x_ifeq, x_ifne, x_iflt, x_ifge, x_ifgt, x_ifle, x_iceq, x_icne, x_iclt, x_icge, x_icgt, x_icle, x_tsw, x_lsw, x_iret, x_lret, x_ret, x_getr, x_geti0, x_geti1, x_puti, x_putz, x_putr, x_iald, x_bald, x_lald, x_iast, x_bast, x_last, x_alen0, x_alen1, x_new, x_newa, x_iv0, x_is0, x_ii0_2, x_ii0_4, x_iv1, x_is1, x_ii1_2, x_ii1_4, x_iv2, x_is2, x_ii2_2, x_ii2_4, x_iv3, x_is3, x_iv4, x_is4, x_iv5, x_is5, x_iv6, x_is6, x_iv7, x_is7, x_obj, x_copy, ax_il_i, ax_il_r, ax_il_n, ax_il_l, ax_sz_0, ax_sz_i, ax_sz_r, ax_sz_l, Nat.reduceAdd, Bool.false_eq_true, ↓reduceIte, true_and, and_true, Option.toList_some, Option.toList_none, List.nil_append, List.cons_append, Nat.reduceEqDiff, Nat.reduceLeDiff, Nat.le_refl, false_implies, implies_true, Nat.zero_le, Nat.add_zero, forall_const, Nat.reduceSub, Nat.succ_ne_zero, ne_eq, not_false_eq_true, reduceCtorEq, ie_10, ie_01, not_true_eq_false, not_false_eq_true, true_implies, false_implies, implies_true, and_self, and_true, true_and, true_or, or_true, sc_8, sc_9, sc_10, sc_11, sc_12, sc_13, sc_14, sc_15, sc_16, sc_17, sc_18, sc_19, sc_20, sc_21, sc_22, sc_23, sc_24, sc_25, sc_26, sc_27, sc_28, sc_29, sc_30, sc_31, sc_32, sc_33, sc_34, sc_35, sc_36, sc_37, sc_38, sc_39, sc_40, sc_41, sc_42, sc_43, sc_44, sc_45, sc_46, sc_47, sc_48, sc_49, sc_50, sc_51, sc_52, sc_53, sc_54, sc_55, sc_56, sc_57, sc_58, sc_59, sc_60, sc_61, sc_62, sc_63, sc_64, sc_65, sc_66, sc_67, sc_68, sc_69, sc_70, sc_71, sc_72, sc_73, sc_74, sc_75, sc_76, sc_77, sc_78, sc_79, sc_80, sc_81, sc_82, sc_83, sc_84, sc_85, sc_86, sc_87, sc_88, sc_89, sc_90, sc_91, sc_92, sc_93, sc_94, sc_95, sc_96, sc_97, sc_98, sc_99, sc_100, sc_101, sc_102, sc_103, sc_104, sc_105, sc_106, sc_107, sc_108, sc_109, sc_110, sc_111, sc_112, sc_113, sc_114, sc_115, sc_116, sc_117, sc_118, sc_119, sc_120, sc_121, sc_122, sc_123, sc_124, sc_125, sc_126, sc_127, sc_128, sc_129, sc_130, sc_131, sc_132, sc_133, sc_134, sc_135, sc_136, sc_137, sc_138, sc_139, sc_140, sc_141, sc_142, sc_143, sc_144, sc_145, sc_146, sc_147, sc_148, sc_149, sc_150, sc_151, sc_152, sc_153, sc_154, sc_155, sc_156, sc_157, sc_158, sc_159, sc_160, sc_161, sc_162, sc_163, sc_164, sc_165, ax_z]
  repeat (first | refine And.intro (by decide) ?_ | refine And.intro (And.intro (by decide) (by decide)) ?_)
  refine q_mk (rg_eq (fun q hq => ?_) (fun q q1 q2 => ?_)) (rg_eq (fun q hq => ?_) (fun q q1 q2 => ?_)) (rg_eq (fun q hq => ?_) (fun q q1 q2 => ?_))
  · funext z
    simp only [ax_up, ax_ur, ax_rg, if_neg (show ¬ q = 31 by omega), if_neg (show ¬ q = 32 by omega)]
  · rcases (show q = 31 ∨ 32 ≤ q by omega) with rfl | q3
    · funext j
      rcases (show j = 0 ∨ j = 1 ∨ 2 ≤ j by omega) with rfl | rfl | hj
      rotate_left 2
      · obtain ⟨u, rfl⟩ : ∃ u, j = u + 2 := ⟨j - 2, by omega⟩
        rfl
      all_goals rfl
    · rcases (show q = 32 by omega) with rfl <;> rfl
  · funext z
    simp only [ax_up, ax_ur, ax_rg, if_neg (show ¬ q = 31 by omega), if_neg (show ¬ q = 32 by omega)]
  · rcases (show q = 31 ∨ q = 32 by omega) with rfl | rfl <;> rfl
  · funext z
    simp only [ax_up, ax_ur, ax_rg, if_neg (show ¬ q = 31 by omega), if_neg (show ¬ q = 32 by omega)]
  · rcases (show q = 31 ∨ 32 ≤ q by omega) with rfl | q3
    · funext j
      rcases (show j = 0 ∨ j = 1 ∨ 2 ≤ j by omega) with rfl | rfl | hj
      rotate_left 2
      · obtain ⟨u, rfl⟩ : ∃ u, j = u + 2 := ⟨j - 2, by omega⟩
        rfl
      all_goals rfl
    · rcases (show q = 32 by omega) with rfl <;> rfl
theorem c_Names_init_33 (hok : ax_Xok E) : ax_C E l (d + 2) m_Names_init [.inr (.inr (33))] (ax_z 33 34 i lo r) (q_in L 33 35 35 i lo r) := by
  refine g_Names_init hok ?_
  refine f_Names_init rfl ?_
  simp only [x_nil, x_iconst, x_bipush, x_sipush, x_ldc, x_ldcw, x_lconst, x_ldc2, x_iload_n0, x_lload_n0, x_aload_n0, x_istore_n0, x_astore_n0, x_lstore_n0, x_iinc_0, x_iload_n1, x_lload_n1, x_aload_n1, x_istore_n1, x_astore_n1, x_lstore_n1, x_iinc_1, x_iload_n2, x_lload_n2, x_aload_n2, x_istore_n2, x_astore_n2, x_lstore_n2, x_iinc_2, x_iload_n3, x_lload_n3, x_aload_n3, x_istore_n3, x_astore_n3, x_lstore_n3, x_iinc_3, x_iload_4, x_lload_4, x_aload_4, x_istore_4, x_astore_4, x_lstore_4, x_iinc_4, x_iload_5, x_lload_5, x_aload_5, x_istore_5, x_astore_5, x_lstore_5, x_iinc_5, x_iload_6, x_lload_6, x_aload_6, x_istore_6, x_astore_6, x_lstore_6, x_iinc_6, x_iload_7, x_lload_7, x_aload_7, x_istore_7, x_astore_7, x_lstore_7, x_iinc_7, x_iload_8, x_lload_8, x_aload_8, x_istore_8, x_astore_8, x_lstore_8, x_iinc_8, x_iload_9, x_lload_9, x_aload_9, x_istore_9, x_astore_9, x_lstore_9, x_iinc_9, x_iload_10, x_lload_10, x_aload_10, x_istore_10, x_astore_10, x_lstore_10, x_iinc_10, x_iload_11, x_lload_11, x_aload_11, x_istore_11, x_astore_11, x_lstore_11, x_iinc_11, x_iload_12, x_lload_12, x_aload_12, x_istore_12, x_astore_12, x_lstore_12, x_iinc_12, x_iload_13, x_lload_13, x_aload_13, x_istore_13, x_astore_13, x_lstore_13, x_iinc_13, x_iadd, x_isub, x_imul, x_iand, x_ior, x_ixor, x_ishl, x_ishr, x_iushr, x_ladd, x_lsub, x_lmul, x_land, x_idiv, x_irem, x_ldiv, x_lrem, x_ineg, x_lneg, x_lcmp, x_i2l, x_l2i, x_dupi, x_dupr, x_dup2, x_popi, x_popr, x_goto, x_ifeq, x_ifne, x_iflt, x_ifge, x_ifgt, x_ifle, x_iceq, x_icne, x_iclt, x_icge, x_icgt, x_icle, x_tsw, x_lsw, x_iret, x_lret, x_ret, x_getr, x_geti0, x_geti1, x_puti, x_putz, x_putr, x_iald, x_bald, x_lald, x_iast, x_bast, x_last, x_alen0, x_alen1, x_new, x_newa, x_iv0, x_is0, x_ii0_2, x_ii0_4, x_iv1, x_is1, x_ii1_2, x_ii1_4, x_iv2, x_is2, x_ii2_2, x_ii2_4, x_iv3, x_is3, x_iv4, x_is4, x_iv5, x_is5, x_iv6, x_is6, x_iv7, x_is7, x_obj, x_copy, ax_il_i, ax_il_r, ax_il_n, ax_il_l, ax_sz_0, ax_sz_i, ax_sz_r, ax_sz_l, Nat.reduceAdd, Bool.false_eq_true, ↓reduceIte, true_and, and_true, Option.toList_some, Option.toList_none, List.nil_append, List.cons_append, Nat.reduceEqDiff, Nat.reduceLeDiff, Nat.le_refl, false_implies, implies_true, Nat.zero_le, Nat.add_zero, forall_const, Nat.reduceSub, Nat.succ_ne_zero, ne_eq, not_false_eq_true, reduceCtorEq, ie_10, ie_01, not_true_eq_false, not_false_eq_true, true_implies, false_implies, implies_true, and_self, and_true, true_and, true_or, or_true, sc_8, sc_9, sc_10, sc_11, sc_12, sc_13, sc_14, sc_15, sc_16, sc_17, sc_18, sc_19, sc_20, sc_21, sc_22, sc_23, sc_24, sc_25, sc_26, sc_27, sc_28, sc_29, sc_30, sc_31, sc_32, sc_33, sc_34, sc_35, sc_36, sc_37, sc_38, sc_39, sc_40, sc_41, sc_42, sc_43, sc_44, sc_45, sc_46, sc_47, sc_48, sc_49, sc_50, sc_51, sc_52, sc_53, sc_54, sc_55, sc_56, sc_57, sc_58, sc_59, sc_60, sc_61, sc_62, sc_63, sc_64, sc_65, sc_66, sc_67, sc_68, sc_69, sc_70, sc_71, sc_72, sc_73, sc_74, sc_75, sc_76, sc_77, sc_78, sc_79, sc_80, sc_81, sc_82, sc_83, sc_84, sc_85, sc_86, sc_87, sc_88, sc_89, sc_90, sc_91, sc_92, sc_93, sc_94, sc_95, sc_96, sc_97, sc_98, sc_99, sc_100, sc_101, sc_102, sc_103, sc_104, sc_105, sc_106, sc_107, sc_108, sc_109, sc_110, sc_111, sc_112, sc_113, sc_114, sc_115, sc_116, sc_117, sc_118, sc_119, sc_120, sc_121, sc_122, sc_123, sc_124, sc_125, sc_126, sc_127, sc_128, sc_129, sc_130, sc_131, sc_132, sc_133, sc_134, sc_135, sc_136, sc_137, sc_138, sc_139, sc_140, sc_141, sc_142, sc_143, sc_144, sc_145, sc_146, sc_147, sc_148, sc_149, sc_150, sc_151, sc_152, sc_153, sc_154, sc_155, sc_156, sc_157, sc_158, sc_159, sc_160, sc_161, sc_162, sc_163, sc_164, sc_165, ax_z]
  repeat (first | refine And.intro (by decide) ?_ | refine And.intro (And.intro (by decide) (by decide)) ?_)
  refine q_mk (rg_eq (fun q hq => ?_) (fun q q1 q2 => ?_)) (rg_eq (fun q hq => ?_) (fun q q1 q2 => ?_)) (rg_eq (fun q hq => ?_) (fun q q1 q2 => ?_))
  · funext z
    simp only [ax_up, ax_ur, ax_rg, if_neg (show ¬ q = 33 by omega), if_neg (show ¬ q = 34 by omega)]
  · rcases (show q = 33 ∨ 34 ≤ q by omega) with rfl | q3
    · funext j
      rcases (show j = 0 ∨ j = 1 ∨ 2 ≤ j by omega) with rfl | rfl | hj
      rotate_left 2
      · obtain ⟨u, rfl⟩ : ∃ u, j = u + 2 := ⟨j - 2, by omega⟩
        rfl
      all_goals rfl
    · rcases (show q = 34 by omega) with rfl <;> rfl
  · funext z
    simp only [ax_up, ax_ur, ax_rg, if_neg (show ¬ q = 33 by omega), if_neg (show ¬ q = 34 by omega)]
  · rcases (show q = 33 ∨ q = 34 by omega) with rfl | rfl <;> rfl
  · funext z
    simp only [ax_up, ax_ur, ax_rg, if_neg (show ¬ q = 33 by omega), if_neg (show ¬ q = 34 by omega)]
  · rcases (show q = 33 ∨ 34 ≤ q by omega) with rfl | q3
    · funext j
      rcases (show j = 0 ∨ j = 1 ∨ 2 ≤ j by omega) with rfl | rfl | hj
      rotate_left 2
      · obtain ⟨u, rfl⟩ : ∃ u, j = u + 2 := ⟨j - 2, by omega⟩
        rfl
      all_goals rfl
    · rcases (show q = 34 by omega) with rfl <;> rfl
theorem c_Names_init_73 (hok : ax_Xok E) : ax_C E l (d + 2) m_Names_init [.inr (.inr (73))] (ax_z 73 74 i lo r) (q_in L 73 75 75 i lo r) := by
  refine g_Names_init hok ?_
  refine f_Names_init rfl ?_
  simp only [x_nil, x_iconst, x_bipush, x_sipush, x_ldc, x_ldcw, x_lconst, x_ldc2, x_iload_n0, x_lload_n0, x_aload_n0, x_istore_n0, x_astore_n0, x_lstore_n0, x_iinc_0, x_iload_n1, x_lload_n1, x_aload_n1, x_istore_n1, x_astore_n1, x_lstore_n1, x_iinc_1, x_iload_n2, x_lload_n2, x_aload_n2, x_istore_n2, x_astore_n2, x_lstore_n2, x_iinc_2, x_iload_n3, x_lload_n3, x_aload_n3, x_istore_n3, x_astore_n3, x_lstore_n3, x_iinc_3, x_iload_4, x_lload_4, x_aload_4, x_istore_4, x_astore_4, x_lstore_4, x_iinc_4, x_iload_5, x_lload_5, x_aload_5, x_istore_5, x_astore_5, x_lstore_5, x_iinc_5, x_iload_6, x_lload_6, x_aload_6, x_istore_6, x_astore_6, x_lstore_6, x_iinc_6, x_iload_7, x_lload_7, x_aload_7, x_istore_7, x_astore_7, x_lstore_7, x_iinc_7, x_iload_8, x_lload_8, x_aload_8, x_istore_8, x_astore_8, x_lstore_8, x_iinc_8, x_iload_9, x_lload_9, x_aload_9, x_istore_9, x_astore_9, x_lstore_9, x_iinc_9, x_iload_10, x_lload_10, x_aload_10, x_istore_10, x_astore_10, x_lstore_10, x_iinc_10, x_iload_11, x_lload_11, x_aload_11, x_istore_11, x_astore_11, x_lstore_11, x_iinc_11, x_iload_12, x_lload_12, x_aload_12, x_istore_12, x_astore_12, x_lstore_12, x_iinc_12, x_iload_13, x_lload_13, x_aload_13, x_istore_13, x_astore_13, x_lstore_13, x_iinc_13, x_iadd, x_isub, x_imul, x_iand, x_ior, x_ixor, x_ishl, x_ishr, x_iushr, x_ladd, x_lsub, x_lmul, x_land, x_idiv, x_irem, x_ldiv, x_lrem, x_ineg, x_lneg, x_lcmp, x_i2l, x_l2i, x_dupi, x_dupr, x_dup2, x_popi, x_popr, x_goto, x_ifeq, x_ifne, x_iflt, x_ifge, x_ifgt, x_ifle, x_iceq, x_icne, x_iclt, x_icge, x_icgt, x_icle, x_tsw, x_lsw, x_iret, x_lret, x_ret, x_getr, x_geti0, x_geti1, x_puti, x_putz, x_putr, x_iald, x_bald, x_lald, x_iast, x_bast, x_last, x_alen0, x_alen1, x_new, x_newa, x_iv0, x_is0, x_ii0_2, x_ii0_4, x_iv1, x_is1, x_ii1_2, x_ii1_4, x_iv2, x_is2, x_ii2_2, x_ii2_4, x_iv3, x_is3, x_iv4, x_is4, x_iv5, x_is5, x_iv6, x_is6, x_iv7, x_is7, x_obj, x_copy, ax_il_i, ax_il_r, ax_il_n, ax_il_l, ax_sz_0, ax_sz_i, ax_sz_r, ax_sz_l, Nat.reduceAdd, Bool.false_eq_true, ↓reduceIte, true_and, and_true, Option.toList_some, Option.toList_none, List.nil_append, List.cons_append, Nat.reduceEqDiff, Nat.reduceLeDiff, Nat.le_refl, false_implies, implies_true, Nat.zero_le, Nat.add_zero, forall_const, Nat.reduceSub, Nat.succ_ne_zero, ne_eq, not_false_eq_true, reduceCtorEq, ie_10, ie_01, not_true_eq_false, not_false_eq_true, true_implies, false_implies, implies_true, and_self, and_true, true_and, true_or, or_true, sc_8, sc_9, sc_10, sc_11, sc_12, sc_13, sc_14, sc_15, sc_16, sc_17, sc_18, sc_19, sc_20, sc_21, sc_22, sc_23, sc_24, sc_25, sc_26, sc_27, sc_28, sc_29, sc_30, sc_31, sc_32, sc_33, sc_34, sc_35, sc_36, sc_37, sc_38, sc_39, sc_40, sc_41, sc_42, sc_43, sc_44, sc_45, sc_46, sc_47, sc_48, sc_49, sc_50, sc_51, sc_52, sc_53, sc_54, sc_55, sc_56, sc_57, sc_58, sc_59, sc_60, sc_61, sc_62, sc_63, sc_64, sc_65, sc_66, sc_67, sc_68, sc_69, sc_70, sc_71, sc_72, sc_73, sc_74, sc_75, sc_76, sc_77, sc_78, sc_79, sc_80, sc_81, sc_82, sc_83, sc_84, sc_85, sc_86, sc_87, sc_88, sc_89, sc_90, sc_91, sc_92, sc_93, sc_94, sc_95, sc_96, sc_97, sc_98, sc_99, sc_100, sc_101, sc_102, sc_103, sc_104, sc_105, sc_106, sc_107, sc_108, sc_109, sc_110, sc_111, sc_112, sc_113, sc_114, sc_115, sc_116, sc_117, sc_118, sc_119, sc_120, sc_121, sc_122, sc_123, sc_124, sc_125, sc_126, sc_127, sc_128, sc_129, sc_130, sc_131, sc_132, sc_133, sc_134, sc_135, sc_136, sc_137, sc_138, sc_139, sc_140, sc_141, sc_142, sc_143, sc_144, sc_145, sc_146, sc_147, sc_148, sc_149, sc_150, sc_151, sc_152, sc_153, sc_154, sc_155, sc_156, sc_157, sc_158, sc_159, sc_160, sc_161, sc_162, sc_163, sc_164, sc_165, ax_z]
  repeat (first | refine And.intro (by decide) ?_ | refine And.intro (And.intro (by decide) (by decide)) ?_)
  refine q_mk (rg_eq (fun q hq => ?_) (fun q q1 q2 => ?_)) (rg_eq (fun q hq => ?_) (fun q q1 q2 => ?_)) (rg_eq (fun q hq => ?_) (fun q q1 q2 => ?_))
  · funext z
    simp only [ax_up, ax_ur, ax_rg, if_neg (show ¬ q = 73 by omega), if_neg (show ¬ q = 74 by omega)]
  · rcases (show q = 73 ∨ 74 ≤ q by omega) with rfl | q3
    · funext j
      rcases (show j = 0 ∨ j = 1 ∨ 2 ≤ j by omega) with rfl | rfl | hj
      rotate_left 2
      · obtain ⟨u, rfl⟩ : ∃ u, j = u + 2 := ⟨j - 2, by omega⟩
        rfl
      all_goals rfl
    · rcases (show q = 74 by omega) with rfl <;> rfl
  · funext z
    simp only [ax_up, ax_ur, ax_rg, if_neg (show ¬ q = 73 by omega), if_neg (show ¬ q = 74 by omega)]
  · rcases (show q = 73 ∨ q = 74 by omega) with rfl | rfl <;> rfl
  · funext z
    simp only [ax_up, ax_ur, ax_rg, if_neg (show ¬ q = 73 by omega), if_neg (show ¬ q = 74 by omega)]
  · rcases (show q = 73 ∨ 74 ≤ q by omega) with rfl | q3
    · funext j
      rcases (show j = 0 ∨ j = 1 ∨ 2 ≤ j by omega) with rfl | rfl | hj
      rotate_left 2
      · obtain ⟨u, rfl⟩ : ∃ u, j = u + 2 := ⟨j - 2, by omega⟩
        rfl
      all_goals rfl
    · rcases (show q = 74 by omega) with rfl <;> rfl
theorem c_Names_init_75 (hok : ax_Xok E) : ax_C E l (d + 2) m_Names_init [.inr (.inr (75))] (ax_z 75 76 i lo r) (q_in L 75 77 77 i lo r) := by
  refine g_Names_init hok ?_
  refine f_Names_init rfl ?_
  simp only [x_nil, x_iconst, x_bipush, x_sipush, x_ldc, x_ldcw, x_lconst, x_ldc2, x_iload_n0, x_lload_n0, x_aload_n0, x_istore_n0, x_astore_n0, x_lstore_n0, x_iinc_0, x_iload_n1, x_lload_n1, x_aload_n1, x_istore_n1, x_astore_n1, x_lstore_n1, x_iinc_1, x_iload_n2, x_lload_n2, x_aload_n2, x_istore_n2, x_astore_n2, x_lstore_n2, x_iinc_2, x_iload_n3, x_lload_n3, x_aload_n3, x_istore_n3, x_astore_n3, x_lstore_n3, x_iinc_3, x_iload_4, x_lload_4, x_aload_4, x_istore_4, x_astore_4, x_lstore_4, x_iinc_4, x_iload_5, x_lload_5, x_aload_5, x_istore_5, x_astore_5, x_lstore_5, x_iinc_5, x_iload_6, x_lload_6, x_aload_6, x_istore_6, x_astore_6, x_lstore_6, x_iinc_6, x_iload_7, x_lload_7, x_aload_7, x_istore_7, x_astore_7, x_lstore_7, x_iinc_7, x_iload_8, x_lload_8, x_aload_8, x_istore_8, x_astore_8, x_lstore_8, x_iinc_8, x_iload_9, x_lload_9, x_aload_9, x_istore_9, x_astore_9, x_lstore_9, x_iinc_9, x_iload_10, x_lload_10, x_aload_10, x_istore_10, x_astore_10, x_lstore_10, x_iinc_10, x_iload_11, x_lload_11, x_aload_11, x_istore_11, x_astore_11, x_lstore_11, x_iinc_11, x_iload_12, x_lload_12, x_aload_12, x_istore_12, x_astore_12, x_lstore_12, x_iinc_12, x_iload_13, x_lload_13, x_aload_13, x_istore_13, x_astore_13, x_lstore_13, x_iinc_13, x_iadd, x_isub, x_imul, x_iand, x_ior, x_ixor, x_ishl, x_ishr, x_iushr, x_ladd, x_lsub, x_lmul, x_land, x_idiv, x_irem, x_ldiv, x_lrem, x_ineg, x_lneg, x_lcmp, x_i2l, x_l2i, x_dupi, x_dupr, x_dup2, x_popi, x_popr, x_goto, x_ifeq, x_ifne, x_iflt, x_ifge, x_ifgt, x_ifle, x_iceq, x_icne, x_iclt, x_icge, x_icgt, x_icle, x_tsw, x_lsw, x_iret, x_lret, x_ret, x_getr, x_geti0, x_geti1, x_puti, x_putz, x_putr, x_iald, x_bald, x_lald, x_iast, x_bast, x_last, x_alen0, x_alen1, x_new, x_newa, x_iv0, x_is0, x_ii0_2, x_ii0_4, x_iv1, x_is1, x_ii1_2, x_ii1_4, x_iv2, x_is2, x_ii2_2, x_ii2_4, x_iv3, x_is3, x_iv4, x_is4, x_iv5, x_is5, x_iv6, x_is6, x_iv7, x_is7, x_obj, x_copy, ax_il_i, ax_il_r, ax_il_n, ax_il_l, ax_sz_0, ax_sz_i, ax_sz_r, ax_sz_l, Nat.reduceAdd, Bool.false_eq_true, ↓reduceIte, true_and, and_true, Option.toList_some, Option.toList_none, List.nil_append, List.cons_append, Nat.reduceEqDiff, Nat.reduceLeDiff, Nat.le_refl, false_implies, implies_true, Nat.zero_le, Nat.add_zero, forall_const, Nat.reduceSub, Nat.succ_ne_zero, ne_eq, not_false_eq_true, reduceCtorEq, ie_10, ie_01, not_true_eq_false, not_false_eq_true, true_implies, false_implies, implies_true, and_self, and_true, true_and, true_or, or_true, sc_8, sc_9, sc_10, sc_11, sc_12, sc_13, sc_14, sc_15, sc_16, sc_17, sc_18, sc_19, sc_20, sc_21, sc_22, sc_23, sc_24, sc_25, sc_26, sc_27, sc_28, sc_29, sc_30, sc_31, sc_32, sc_33, sc_34, sc_35, sc_36, sc_37, sc_38, sc_39, sc_40, sc_41, sc_42, sc_43, sc_44, sc_45, sc_46, sc_47, sc_48, sc_49, sc_50, sc_51, sc_52, sc_53, sc_54, sc_55, sc_56, sc_57, sc_58, sc_59, sc_60, sc_61, sc_62, sc_63, sc_64, sc_65, sc_66, sc_67, sc_68, sc_69, sc_70, sc_71, sc_72, sc_73, sc_74, sc_75, sc_76, sc_77, sc_78, sc_79, sc_80, sc_81, sc_82, sc_83, sc_84, sc_85, sc_86, sc_87, sc_88, sc_89, sc_90, sc_91, sc_92, sc_93, sc_94, sc_95, sc_96, sc_97, sc_98, sc_99, sc_100, sc_101, sc_102, sc_103, sc_104, sc_105, sc_106, sc_107, sc_108, sc_109, sc_110, sc_111, sc_112, sc_113, sc_114, sc_115, sc_116, sc_117, sc_118, sc_119, sc_120, sc_121, sc_122, sc_123, sc_124, sc_125, sc_126, sc_127, sc_128, sc_129, sc_130, sc_131, sc_132, sc_133, sc_134, sc_135, sc_136, sc_137, sc_138, sc_139, sc_140, sc_141, sc_142, sc_143, sc_144, sc_145, sc_146, sc_147, sc_148, sc_149, sc_150, sc_151, sc_152, sc_153, sc_154, sc_155, sc_156, sc_157, sc_158, sc_159, sc_160, sc_161, sc_162, sc_163, sc_164, sc_165, ax_z]
  repeat (first | refine And.intro (by decide) ?_ | refine And.intro (And.intro (by decide) (by decide)) ?_)
  refine q_mk (rg_eq (fun q hq => ?_) (fun q q1 q2 => ?_)) (rg_eq (fun q hq => ?_) (fun q q1 q2 => ?_)) (rg_eq (fun q hq => ?_) (fun q q1 q2 => ?_))
  · funext z
    simp only [ax_up, ax_ur, ax_rg, if_neg (show ¬ q = 75 by omega), if_neg (show ¬ q = 76 by omega)]
  · rcases (show q = 75 ∨ 76 ≤ q by omega) with rfl | q3
    · funext j
      rcases (show j = 0 ∨ j = 1 ∨ 2 ≤ j by omega) with rfl | rfl | hj
      rotate_left 2
      · obtain ⟨u, rfl⟩ : ∃ u, j = u + 2 := ⟨j - 2, by omega⟩
        rfl
      all_goals rfl
    · rcases (show q = 76 by omega) with rfl <;> rfl
  · funext z
    simp only [ax_up, ax_ur, ax_rg, if_neg (show ¬ q = 75 by omega), if_neg (show ¬ q = 76 by omega)]
  · rcases (show q = 75 ∨ q = 76 by omega) with rfl | rfl <;> rfl
  · funext z
    simp only [ax_up, ax_ur, ax_rg, if_neg (show ¬ q = 75 by omega), if_neg (show ¬ q = 76 by omega)]
  · rcases (show q = 75 ∨ 76 ≤ q by omega) with rfl | q3
    · funext j
      rcases (show j = 0 ∨ j = 1 ∨ 2 ≤ j by omega) with rfl | rfl | hj
      rotate_left 2
      · obtain ⟨u, rfl⟩ : ∃ u, j = u + 2 := ⟨j - 2, by omega⟩
        rfl
      all_goals rfl
    · rcases (show q = 76 by omega) with rfl <;> rfl
theorem c_Names_init_77 (hok : ax_Xok E) : ax_C E l (d + 2) m_Names_init [.inr (.inr (77))] (ax_z 77 78 i lo r) (q_in L 77 79 79 i lo r) := by
  refine g_Names_init hok ?_
  refine f_Names_init rfl ?_
  simp only [x_nil, x_iconst, x_bipush, x_sipush, x_ldc, x_ldcw, x_lconst, x_ldc2, x_iload_n0, x_lload_n0, x_aload_n0, x_istore_n0, x_astore_n0, x_lstore_n0, x_iinc_0, x_iload_n1, x_lload_n1, x_aload_n1, x_istore_n1, x_astore_n1, x_lstore_n1, x_iinc_1, x_iload_n2, x_lload_n2, x_aload_n2, x_istore_n2, x_astore_n2, x_lstore_n2, x_iinc_2, x_iload_n3, x_lload_n3, x_aload_n3, x_istore_n3, x_astore_n3, x_lstore_n3, x_iinc_3, x_iload_4, x_lload_4, x_aload_4, x_istore_4, x_astore_4, x_lstore_4, x_iinc_4, x_iload_5, x_lload_5, x_aload_5, x_istore_5, x_astore_5, x_lstore_5, x_iinc_5, x_iload_6, x_lload_6, x_aload_6, x_istore_6, x_astore_6, x_lstore_6, x_iinc_6, x_iload_7, x_lload_7, x_aload_7, x_istore_7, x_astore_7, x_lstore_7, x_iinc_7, x_iload_8, x_lload_8, x_aload_8, x_istore_8, x_astore_8, x_lstore_8, x_iinc_8, x_iload_9, x_lload_9, x_aload_9, x_istore_9, x_astore_9, x_lstore_9, x_iinc_9, x_iload_10, x_lload_10, x_aload_10, x_istore_10, x_astore_10, x_lstore_10, x_iinc_10, x_iload_11, x_lload_11, x_aload_11, x_istore_11, x_astore_11, x_lstore_11, x_iinc_11, x_iload_12, x_lload_12, x_aload_12, x_istore_12, x_astore_12, x_lstore_12, x_iinc_12, x_iload_13, x_lload_13, x_aload_13, x_istore_13, x_astore_13, x_lstore_13, x_iinc_13, x_iadd, x_isub, x_imul, x_iand, x_ior, x_ixor, x_ishl, x_ishr, x_iushr, x_ladd, x_lsub, x_lmul, x_land, x_idiv, x_irem, x_ldiv, x_lrem, x_ineg, x_lneg, x_lcmp, x_i2l, x_l2i, x_dupi, x_dupr, x_dup2, x_popi, x_popr, x_goto, x_ifeq, x_ifne, x_iflt, x_ifge, x_ifgt, x_ifle, x_iceq, x_icne, x_iclt, x_icge, x_icgt, x_icle, x_tsw, x_lsw, x_iret, x_lret, x_ret, x_getr, x_geti0, x_geti1, x_puti, x_putz, x_putr, x_iald, x_bald, x_lald, x_iast, x_bast, x_last, x_alen0, x_alen1, x_new, x_newa, x_iv0, x_is0, x_ii0_2, x_ii0_4, x_iv1, x_is1, x_ii1_2, x_ii1_4, x_iv2, x_is2, x_ii2_2, x_ii2_4, x_iv3, x_is3, x_iv4, x_is4, x_iv5, x_is5, x_iv6, x_is6, x_iv7, x_is7, x_obj, x_copy, ax_il_i, ax_il_r, ax_il_n, ax_il_l, ax_sz_0, ax_sz_i, ax_sz_r, ax_sz_l, Nat.reduceAdd, Bool.false_eq_true, ↓reduceIte, true_and, and_true, Option.toList_some, Option.toList_none, List.nil_append, List.cons_append, Nat.reduceEqDiff, Nat.reduceLeDiff, Nat.le_refl, false_implies, implies_true, Nat.zero_le, Nat.add_zero, forall_const, Nat.reduceSub, Nat.succ_ne_zero, ne_eq, not_false_eq_true, reduceCtorEq, ie_10, ie_01, not_true_eq_false, not_false_eq_true, true_implies, false_implies, implies_true, and_self, and_true, true_and, true_or, or_true, sc_8, sc_9, sc_10, sc_11, sc_12, sc_13, sc_14, sc_15, sc_16, sc_17, sc_18, sc_19, sc_20, sc_21, sc_22, sc_23, sc_24, sc_25, sc_26, sc_27, sc_28, sc_29, sc_30, sc_31, sc_32, sc_33, sc_34, sc_35, sc_36, sc_37, sc_38, sc_39, sc_40, sc_41, sc_42, sc_43, sc_44, sc_45, sc_46, sc_47, sc_48, sc_49, sc_50, sc_51, sc_52, sc_53, sc_54, sc_55, sc_56, sc_57, sc_58, sc_59, sc_60, sc_61, sc_62, sc_63, sc_64, sc_65, sc_66, sc_67, sc_68, sc_69, sc_70, sc_71, sc_72, sc_73, sc_74, sc_75, sc_76, sc_77, sc_78, sc_79, sc_80, sc_81, sc_82, sc_83, sc_84, sc_85, sc_86, sc_87, sc_88, sc_89, sc_90, sc_91, sc_92, sc_93, sc_94, sc_95, sc_96, sc_97, sc_98, sc_99, sc_100, sc_101, sc_102, sc_103, sc_104, sc_105, sc_106, sc_107, sc_108, sc_109, sc_110, sc_111, sc_112, sc_113, sc_114, sc_115, sc_116, sc_117, sc_118, sc_119, sc_120, sc_121, sc_122, sc_123, sc_124, sc_125, sc_126, sc_127, sc_128, sc_129, sc_130, sc_131, sc_132, sc_133, sc_134, sc_135, sc_136, sc_137, sc_138, sc_139, sc_140, sc_141, sc_142, sc_143, sc_144, sc_145, sc_146, sc_147, sc_148, sc_149, sc_150, sc_151, sc_152, sc_153, sc_154, sc_155, sc_156, sc_157, sc_158, sc_159, sc_160, sc_161, sc_162, sc_163, sc_164, sc_165, ax_z]
  repeat (first | refine And.intro (by decide) ?_ | refine And.intro (And.intro (by decide) (by decide)) ?_)
  refine q_mk (rg_eq (fun q hq => ?_) (fun q q1 q2 => ?_)) (rg_eq (fun q hq => ?_) (fun q q1 q2 => ?_)) (rg_eq (fun q hq => ?_) (fun q q1 q2 => ?_))
  · funext z
    simp only [ax_up, ax_ur, ax_rg, if_neg (show ¬ q = 77 by omega), if_neg (show ¬ q = 78 by omega)]
  · rcases (show q = 77 ∨ 78 ≤ q by omega) with rfl | q3
    · funext j
      rcases (show j = 0 ∨ j = 1 ∨ 2 ≤ j by omega) with rfl | rfl | hj
      rotate_left 2
      · obtain ⟨u, rfl⟩ : ∃ u, j = u + 2 := ⟨j - 2, by omega⟩
        rfl
      all_goals rfl
    · rcases (show q = 78 by omega) with rfl <;> rfl
  · funext z
    simp only [ax_up, ax_ur, ax_rg, if_neg (show ¬ q = 77 by omega), if_neg (show ¬ q = 78 by omega)]
  · rcases (show q = 77 ∨ q = 78 by omega) with rfl | rfl <;> rfl
  · funext z
    simp only [ax_up, ax_ur, ax_rg, if_neg (show ¬ q = 77 by omega), if_neg (show ¬ q = 78 by omega)]
  · rcases (show q = 77 ∨ 78 ≤ q by omega) with rfl | q3
    · funext j
      rcases (show j = 0 ∨ j = 1 ∨ 2 ≤ j by omega) with rfl | rfl | hj
      rotate_left 2
      · obtain ⟨u, rfl⟩ : ∃ u, j = u + 2 := ⟨j - 2, by omega⟩
        rfl
      all_goals rfl
    · rcases (show q = 78 by omega) with rfl <;> rfl
theorem c_Nose_init_48 (hok : ax_Xok E) : ax_C E l (d + 2) m_Nose_init [.inr (.inr (48)), .inr (.inr (22)), .inr (.inr (37))] (ax_z 48 49 i lo r) (q_in L 48 51 51 i lo r) := by
  refine g_Nose_init hok ?_
  refine f_Nose_init rfl ?_
  simp only [x_nil, x_iconst, x_bipush, x_sipush, x_ldc, x_ldcw, x_lconst, x_ldc2, x_iload_n0, x_lload_n0, x_aload_n0, x_istore_n0, x_astore_n0, x_lstore_n0, x_iinc_0, x_iload_n1, x_lload_n1, x_aload_n1, x_istore_n1, x_astore_n1, x_lstore_n1, x_iinc_1, x_iload_n2, x_lload_n2, x_aload_n2, x_istore_n2, x_astore_n2, x_lstore_n2, x_iinc_2, x_iload_n3, x_lload_n3, x_aload_n3, x_istore_n3, x_astore_n3, x_lstore_n3, x_iinc_3, x_iload_4, x_lload_4, x_aload_4, x_istore_4, x_astore_4, x_lstore_4, x_iinc_4, x_iload_5, x_lload_5, x_aload_5, x_istore_5, x_astore_5, x_lstore_5, x_iinc_5, x_iload_6, x_lload_6, x_aload_6, x_istore_6, x_astore_6, x_lstore_6, x_iinc_6, x_iload_7, x_lload_7, x_aload_7, x_istore_7, x_astore_7, x_lstore_7, x_iinc_7, x_iload_8, x_lload_8, x_aload_8, x_istore_8, x_astore_8, x_lstore_8, x_iinc_8, x_iload_9, x_lload_9, x_aload_9, x_istore_9, x_astore_9, x_lstore_9, x_iinc_9, x_iload_10, x_lload_10, x_aload_10, x_istore_10, x_astore_10, x_lstore_10, x_iinc_10, x_iload_11, x_lload_11, x_aload_11, x_istore_11, x_astore_11, x_lstore_11, x_iinc_11, x_iload_12, x_lload_12, x_aload_12, x_istore_12, x_astore_12, x_lstore_12, x_iinc_12, x_iload_13, x_lload_13, x_aload_13, x_istore_13, x_astore_13, x_lstore_13, x_iinc_13, x_iadd, x_isub, x_imul, x_iand, x_ior, x_ixor, x_ishl, x_ishr, x_iushr, x_ladd, x_lsub, x_lmul, x_land, x_idiv, x_irem, x_ldiv, x_lrem, x_ineg, x_lneg, x_lcmp, x_i2l, x_l2i, x_dupi, x_dupr, x_dup2, x_popi, x_popr, x_goto, x_ifeq, x_ifne, x_iflt, x_ifge, x_ifgt, x_ifle, x_iceq, x_icne, x_iclt, x_icge, x_icgt, x_icle, x_tsw, x_lsw, x_iret, x_lret, x_ret, x_getr, x_geti0, x_geti1, x_puti, x_putz, x_putr, x_iald, x_bald, x_lald, x_iast, x_bast, x_last, x_alen0, x_alen1, x_new, x_newa, x_iv0, x_is0, x_ii0_2, x_ii0_4, x_iv1, x_is1, x_ii1_2, x_ii1_4, x_iv2, x_is2, x_ii2_2, x_ii2_4, x_iv3, x_is3, x_iv4, x_is4, x_iv5, x_is5, x_iv6, x_is6, x_iv7, x_is7, x_obj, x_copy, ax_il_i, ax_il_r, ax_il_n, ax_il_l, ax_sz_0, ax_sz_i, ax_sz_r, ax_sz_l, Nat.reduceAdd, Bool.false_eq_true, ↓reduceIte, true_and, and_true, Option.toList_some, Option.toList_none, List.nil_append, List.cons_append, Nat.reduceEqDiff, Nat.reduceLeDiff, Nat.le_refl, false_implies, implies_true, Nat.zero_le, Nat.add_zero, forall_const, Nat.reduceSub, Nat.succ_ne_zero, ne_eq, not_false_eq_true, reduceCtorEq, ie_10, ie_01, not_true_eq_false, not_false_eq_true, true_implies, false_implies, implies_true, and_self, and_true, true_and, true_or, or_true, sc_8, sc_9, sc_10, sc_11, sc_12, sc_13, sc_14, sc_15, sc_16, sc_17, sc_18, sc_19, sc_20, sc_21, sc_22, sc_23, sc_24, sc_25, sc_26, sc_27, sc_28, sc_29, sc_30, sc_31, sc_32, sc_33, sc_34, sc_35, sc_36, sc_37, sc_38, sc_39, sc_40, sc_41, sc_42, sc_43, sc_44, sc_45, sc_46, sc_47, sc_48, sc_49, sc_50, sc_51, sc_52, sc_53, sc_54, sc_55, sc_56, sc_57, sc_58, sc_59, sc_60, sc_61, sc_62, sc_63, sc_64, sc_65, sc_66, sc_67, sc_68, sc_69, sc_70, sc_71, sc_72, sc_73, sc_74, sc_75, sc_76, sc_77, sc_78, sc_79, sc_80, sc_81, sc_82, sc_83, sc_84, sc_85, sc_86, sc_87, sc_88, sc_89, sc_90, sc_91, sc_92, sc_93, sc_94, sc_95, sc_96, sc_97, sc_98, sc_99, sc_100, sc_101, sc_102, sc_103, sc_104, sc_105, sc_106, sc_107, sc_108, sc_109, sc_110, sc_111, sc_112, sc_113, sc_114, sc_115, sc_116, sc_117, sc_118, sc_119, sc_120, sc_121, sc_122, sc_123, sc_124, sc_125, sc_126, sc_127, sc_128, sc_129, sc_130, sc_131, sc_132, sc_133, sc_134, sc_135, sc_136, sc_137, sc_138, sc_139, sc_140, sc_141, sc_142, sc_143, sc_144, sc_145, sc_146, sc_147, sc_148, sc_149, sc_150, sc_151, sc_152, sc_153, sc_154, sc_155, sc_156, sc_157, sc_158, sc_159, sc_160, sc_161, sc_162, sc_163, sc_164, sc_165, ax_z]
  repeat (first | refine And.intro (by decide) ?_ | refine And.intro (And.intro (by decide) (by decide)) ?_)
  refine q_mk (rg_eq (fun q hq => ?_) (fun q q1 q2 => ?_)) (rg_eq (fun q hq => ?_) (fun q q1 q2 => ?_)) (rg_eq (fun q hq => ?_) (fun q q1 q2 => ?_))
  · funext z
    simp only [ax_up, ax_ur, ax_rg, if_neg (show ¬ q = 48 by omega), if_neg (show ¬ q = 49 by omega), if_neg (show ¬ q = 50 by omega)]
  · rcases (show q = 48 ∨ 49 ≤ q by omega) with rfl | q3
    · funext j
      rcases (show j = 0 ∨ j = 1 ∨ j = 2 ∨ j = 3 ∨ 4 ≤ j by omega) with rfl | rfl | rfl | rfl | hj
      rotate_left 4
      · obtain ⟨u, rfl⟩ : ∃ u, j = u + 4 := ⟨j - 4, by omega⟩
        rfl
      all_goals rfl
    · rcases (show q = 49 ∨ q = 50 by omega) with rfl | rfl <;> rfl
  · funext z
    simp only [ax_up, ax_ur, ax_rg, if_neg (show ¬ q = 48 by omega), if_neg (show ¬ q = 49 by omega), if_neg (show ¬ q = 50 by omega)]
  · rcases (show q = 48 ∨ q = 49 ∨ q = 50 by omega) with rfl | rfl | rfl <;> rfl
  · funext z
    simp only [ax_up, ax_ur, ax_rg, if_neg (show ¬ q = 48 by omega), if_neg (show ¬ q = 49 by omega), if_neg (show ¬ q = 50 by omega)]
  · rcases (show q = 48 ∨ 49 ≤ q by omega) with rfl | q3
    · funext j
      rcases (show j = 0 ∨ j = 1 ∨ j = 2 ∨ j = 3 ∨ 4 ≤ j by omega) with rfl | rfl | rfl | rfl | hj
      rotate_left 4
      · obtain ⟨u, rfl⟩ : ∃ u, j = u + 4 := ⟨j - 4, by omega⟩
        rfl
      all_goals rfl
    · rcases (show q = 49 ∨ q = 50 by omega) with rfl | rfl <;> rfl
theorem c_Past_init_92 (hok : ax_Xok E) : ax_C E l (d + 2) m_Past_init [.inr (.inr (92))] (ax_z 92 93 i lo r) (q_in L 92 96 96 i lo r) := by
  refine g_Past_init hok ?_
  refine f_Past_init rfl ?_
  simp only [x_nil, x_iconst, x_bipush, x_sipush, x_ldc, x_ldcw, x_lconst, x_ldc2, x_iload_n0, x_lload_n0, x_aload_n0, x_istore_n0, x_astore_n0, x_lstore_n0, x_iinc_0, x_iload_n1, x_lload_n1, x_aload_n1, x_istore_n1, x_astore_n1, x_lstore_n1, x_iinc_1, x_iload_n2, x_lload_n2, x_aload_n2, x_istore_n2, x_astore_n2, x_lstore_n2, x_iinc_2, x_iload_n3, x_lload_n3, x_aload_n3, x_istore_n3, x_astore_n3, x_lstore_n3, x_iinc_3, x_iload_4, x_lload_4, x_aload_4, x_istore_4, x_astore_4, x_lstore_4, x_iinc_4, x_iload_5, x_lload_5, x_aload_5, x_istore_5, x_astore_5, x_lstore_5, x_iinc_5, x_iload_6, x_lload_6, x_aload_6, x_istore_6, x_astore_6, x_lstore_6, x_iinc_6, x_iload_7, x_lload_7, x_aload_7, x_istore_7, x_astore_7, x_lstore_7, x_iinc_7, x_iload_8, x_lload_8, x_aload_8, x_istore_8, x_astore_8, x_lstore_8, x_iinc_8, x_iload_9, x_lload_9, x_aload_9, x_istore_9, x_astore_9, x_lstore_9, x_iinc_9, x_iload_10, x_lload_10, x_aload_10, x_istore_10, x_astore_10, x_lstore_10, x_iinc_10, x_iload_11, x_lload_11, x_aload_11, x_istore_11, x_astore_11, x_lstore_11, x_iinc_11, x_iload_12, x_lload_12, x_aload_12, x_istore_12, x_astore_12, x_lstore_12, x_iinc_12, x_iload_13, x_lload_13, x_aload_13, x_istore_13, x_astore_13, x_lstore_13, x_iinc_13, x_iadd, x_isub, x_imul, x_iand, x_ior, x_ixor, x_ishl, x_ishr, x_iushr, x_ladd, x_lsub, x_lmul, x_land, x_idiv, x_irem, x_ldiv, x_lrem, x_ineg, x_lneg, x_lcmp, x_i2l, x_l2i, x_dupi, x_dupr, x_dup2, x_popi, x_popr, x_goto, x_ifeq, x_ifne, x_iflt, x_ifge, x_ifgt, x_ifle, x_iceq, x_icne, x_iclt, x_icge, x_icgt, x_icle, x_tsw, x_lsw, x_iret, x_lret, x_ret, x_getr, x_geti0, x_geti1, x_puti, x_putz, x_putr, x_iald, x_bald, x_lald, x_iast, x_bast, x_last, x_alen0, x_alen1, x_new, x_newa, x_iv0, x_is0, x_ii0_2, x_ii0_4, x_iv1, x_is1, x_ii1_2, x_ii1_4, x_iv2, x_is2, x_ii2_2, x_ii2_4, x_iv3, x_is3, x_iv4, x_is4, x_iv5, x_is5, x_iv6, x_is6, x_iv7, x_is7, x_obj, x_copy, ax_il_i, ax_il_r, ax_il_n, ax_il_l, ax_sz_0, ax_sz_i, ax_sz_r, ax_sz_l, Nat.reduceAdd, Bool.false_eq_true, ↓reduceIte, true_and, and_true, Option.toList_some, Option.toList_none, List.nil_append, List.cons_append, Nat.reduceEqDiff, Nat.reduceLeDiff, Nat.le_refl, false_implies, implies_true, Nat.zero_le, Nat.add_zero, forall_const, Nat.reduceSub, Nat.succ_ne_zero, ne_eq, not_false_eq_true, reduceCtorEq, ie_10, ie_01, not_true_eq_false, not_false_eq_true, true_implies, false_implies, implies_true, and_self, and_true, true_and, true_or, or_true, sc_8, sc_9, sc_10, sc_11, sc_12, sc_13, sc_14, sc_15, sc_16, sc_17, sc_18, sc_19, sc_20, sc_21, sc_22, sc_23, sc_24, sc_25, sc_26, sc_27, sc_28, sc_29, sc_30, sc_31, sc_32, sc_33, sc_34, sc_35, sc_36, sc_37, sc_38, sc_39, sc_40, sc_41, sc_42, sc_43, sc_44, sc_45, sc_46, sc_47, sc_48, sc_49, sc_50, sc_51, sc_52, sc_53, sc_54, sc_55, sc_56, sc_57, sc_58, sc_59, sc_60, sc_61, sc_62, sc_63, sc_64, sc_65, sc_66, sc_67, sc_68, sc_69, sc_70, sc_71, sc_72, sc_73, sc_74, sc_75, sc_76, sc_77, sc_78, sc_79, sc_80, sc_81, sc_82, sc_83, sc_84, sc_85, sc_86, sc_87, sc_88, sc_89, sc_90, sc_91, sc_92, sc_93, sc_94, sc_95, sc_96, sc_97, sc_98, sc_99, sc_100, sc_101, sc_102, sc_103, sc_104, sc_105, sc_106, sc_107, sc_108, sc_109, sc_110, sc_111, sc_112, sc_113, sc_114, sc_115, sc_116, sc_117, sc_118, sc_119, sc_120, sc_121, sc_122, sc_123, sc_124, sc_125, sc_126, sc_127, sc_128, sc_129, sc_130, sc_131, sc_132, sc_133, sc_134, sc_135, sc_136, sc_137, sc_138, sc_139, sc_140, sc_141, sc_142, sc_143, sc_144, sc_145, sc_146, sc_147, sc_148, sc_149, sc_150, sc_151, sc_152, sc_153, sc_154, sc_155, sc_156, sc_157, sc_158, sc_159, sc_160, sc_161, sc_162, sc_163, sc_164, sc_165, ax_z]
  repeat (first | refine And.intro (by decide) ?_ | refine And.intro (And.intro (by decide) (by decide)) ?_)
  refine q_mk (rg_eq (fun q hq => ?_) (fun q q1 q2 => ?_)) (rg_eq (fun q hq => ?_) (fun q q1 q2 => ?_)) (rg_eq (fun q hq => ?_) (fun q q1 q2 => ?_))
  · funext z
    simp only [ax_up, ax_ur, ax_rg, if_neg (show ¬ q = 92 by omega), if_neg (show ¬ q = 93 by omega), if_neg (show ¬ q = 94 by omega), if_neg (show ¬ q = 95 by omega)]
  · rcases (show q = 92 ∨ 93 ≤ q by omega) with rfl | q3
    · funext j
      rcases (show j = 0 ∨ j = 1 ∨ j = 2 ∨ j = 3 ∨ 4 ≤ j by omega) with rfl | rfl | rfl | rfl | hj
      rotate_left 4
      · obtain ⟨u, rfl⟩ : ∃ u, j = u + 4 := ⟨j - 4, by omega⟩
        rfl
      all_goals rfl
    · rcases (show q = 93 ∨ q = 94 ∨ q = 95 by omega) with rfl | rfl | rfl <;> rfl
  · funext z
    simp only [ax_up, ax_ur, ax_rg, if_neg (show ¬ q = 92 by omega), if_neg (show ¬ q = 93 by omega), if_neg (show ¬ q = 94 by omega), if_neg (show ¬ q = 95 by omega)]
  · rcases (show q = 92 ∨ q = 93 ∨ q = 94 ∨ q = 95 by omega) with rfl | rfl | rfl | rfl <;> rfl
  · funext z
    simp only [ax_up, ax_ur, ax_rg, if_neg (show ¬ q = 92 by omega), if_neg (show ¬ q = 93 by omega), if_neg (show ¬ q = 94 by omega), if_neg (show ¬ q = 95 by omega)]
  · rcases (show q = 92 ∨ 93 ≤ q by omega) with rfl | q3
    · funext j
      rcases (show j = 0 ∨ j = 1 ∨ j = 2 ∨ j = 3 ∨ 4 ≤ j by omega) with rfl | rfl | rfl | rfl | hj
      rotate_left 4
      · obtain ⟨u, rfl⟩ : ∃ u, j = u + 4 := ⟨j - 4, by omega⟩
        rfl
      all_goals rfl
    · rcases (show q = 93 ∨ q = 94 ∨ q = 95 by omega) with rfl | rfl | rfl <;> rfl
theorem c_Notebook_init_96 (hok : ax_Xok E) : ax_C E l (d + 2) m_Notebook_init [.inr (.inr (96))] (ax_z 96 97 i lo r) (q_in L 96 103 103 i lo r) := by
  refine g_Notebook_init hok ?_
  refine f_Notebook_init rfl ?_
  simp only [x_nil, x_iconst, x_bipush, x_sipush, x_ldc, x_ldcw, x_lconst, x_ldc2, x_iload_n0, x_lload_n0, x_aload_n0, x_istore_n0, x_astore_n0, x_lstore_n0, x_iinc_0, x_iload_n1, x_lload_n1, x_aload_n1, x_istore_n1, x_astore_n1, x_lstore_n1, x_iinc_1, x_iload_n2, x_lload_n2, x_aload_n2, x_istore_n2, x_astore_n2, x_lstore_n2, x_iinc_2, x_iload_n3, x_lload_n3, x_aload_n3, x_istore_n3, x_astore_n3, x_lstore_n3, x_iinc_3, x_iload_4, x_lload_4, x_aload_4, x_istore_4, x_astore_4, x_lstore_4, x_iinc_4, x_iload_5, x_lload_5, x_aload_5, x_istore_5, x_astore_5, x_lstore_5, x_iinc_5, x_iload_6, x_lload_6, x_aload_6, x_istore_6, x_astore_6, x_lstore_6, x_iinc_6, x_iload_7, x_lload_7, x_aload_7, x_istore_7, x_astore_7, x_lstore_7, x_iinc_7, x_iload_8, x_lload_8, x_aload_8, x_istore_8, x_astore_8, x_lstore_8, x_iinc_8, x_iload_9, x_lload_9, x_aload_9, x_istore_9, x_astore_9, x_lstore_9, x_iinc_9, x_iload_10, x_lload_10, x_aload_10, x_istore_10, x_astore_10, x_lstore_10, x_iinc_10, x_iload_11, x_lload_11, x_aload_11, x_istore_11, x_astore_11, x_lstore_11, x_iinc_11, x_iload_12, x_lload_12, x_aload_12, x_istore_12, x_astore_12, x_lstore_12, x_iinc_12, x_iload_13, x_lload_13, x_aload_13, x_istore_13, x_astore_13, x_lstore_13, x_iinc_13, x_iadd, x_isub, x_imul, x_iand, x_ior, x_ixor, x_ishl, x_ishr, x_iushr, x_ladd, x_lsub, x_lmul, x_land, x_idiv, x_irem, x_ldiv, x_lrem, x_ineg, x_lneg, x_lcmp, x_i2l, x_l2i, x_dupi, x_dupr, x_dup2, x_popi, x_popr, x_goto, x_ifeq, x_ifne, x_iflt, x_ifge, x_ifgt, x_ifle, x_iceq, x_icne, x_iclt, x_icge, x_icgt, x_icle, x_tsw, x_lsw, x_iret, x_lret, x_ret, x_getr, x_geti0, x_geti1, x_puti, x_putz, x_putr, x_iald, x_bald, x_lald, x_iast, x_bast, x_last, x_alen0, x_alen1, x_new, x_newa, x_iv0, x_is0, x_ii0_2, x_ii0_4, x_iv1, x_is1, x_ii1_2, x_ii1_4, x_iv2, x_is2, x_ii2_2, x_ii2_4, x_iv3, x_is3, x_iv4, x_is4, x_iv5, x_is5, x_iv6, x_is6, x_iv7, x_is7, x_obj, x_copy, ax_il_i, ax_il_r, ax_il_n, ax_il_l, ax_sz_0, ax_sz_i, ax_sz_r, ax_sz_l, Nat.reduceAdd, Bool.false_eq_true, ↓reduceIte, true_and, and_true, Option.toList_some, Option.toList_none, List.nil_append, List.cons_append, Nat.reduceEqDiff, Nat.reduceLeDiff, Nat.le_refl, false_implies, implies_true, Nat.zero_le, Nat.add_zero, forall_const, Nat.reduceSub, Nat.succ_ne_zero, ne_eq, not_false_eq_true, reduceCtorEq, ie_10, ie_01, not_true_eq_false, not_false_eq_true, true_implies, false_implies, implies_true, and_self, and_true, true_and, true_or, or_true, sc_8, sc_9, sc_10, sc_11, sc_12, sc_13, sc_14, sc_15, sc_16, sc_17, sc_18, sc_19, sc_20, sc_21, sc_22, sc_23, sc_24, sc_25, sc_26, sc_27, sc_28, sc_29, sc_30, sc_31, sc_32, sc_33, sc_34, sc_35, sc_36, sc_37, sc_38, sc_39, sc_40, sc_41, sc_42, sc_43, sc_44, sc_45, sc_46, sc_47, sc_48, sc_49, sc_50, sc_51, sc_52, sc_53, sc_54, sc_55, sc_56, sc_57, sc_58, sc_59, sc_60, sc_61, sc_62, sc_63, sc_64, sc_65, sc_66, sc_67, sc_68, sc_69, sc_70, sc_71, sc_72, sc_73, sc_74, sc_75, sc_76, sc_77, sc_78, sc_79, sc_80, sc_81, sc_82, sc_83, sc_84, sc_85, sc_86, sc_87, sc_88, sc_89, sc_90, sc_91, sc_92, sc_93, sc_94, sc_95, sc_96, sc_97, sc_98, sc_99, sc_100, sc_101, sc_102, sc_103, sc_104, sc_105, sc_106, sc_107, sc_108, sc_109, sc_110, sc_111, sc_112, sc_113, sc_114, sc_115, sc_116, sc_117, sc_118, sc_119, sc_120, sc_121, sc_122, sc_123, sc_124, sc_125, sc_126, sc_127, sc_128, sc_129, sc_130, sc_131, sc_132, sc_133, sc_134, sc_135, sc_136, sc_137, sc_138, sc_139, sc_140, sc_141, sc_142, sc_143, sc_144, sc_145, sc_146, sc_147, sc_148, sc_149, sc_150, sc_151, sc_152, sc_153, sc_154, sc_155, sc_156, sc_157, sc_158, sc_159, sc_160, sc_161, sc_162, sc_163, sc_164, sc_165, ax_z]
  repeat (first | refine And.intro (by decide) ?_ | refine And.intro (And.intro (by decide) (by decide)) ?_)
  refine q_mk (rg_eq (fun q hq => ?_) (fun q q1 q2 => ?_)) (rg_eq (fun q hq => ?_) (fun q q1 q2 => ?_)) (rg_eq (fun q hq => ?_) (fun q q1 q2 => ?_))
  · funext z
    simp only [ax_up, ax_ur, ax_rg, if_neg (show ¬ q = 96 by omega), if_neg (show ¬ q = 97 by omega), if_neg (show ¬ q = 98 by omega), if_neg (show ¬ q = 99 by omega), if_neg (show ¬ q = 100 by omega), if_neg (show ¬ q = 101 by omega), if_neg (show ¬ q = 102 by omega)]
  · rcases (show q = 96 ∨ 97 ≤ q by omega) with rfl | q3
    · funext j
      rcases (show j = 0 ∨ j = 1 ∨ j = 2 ∨ j = 3 ∨ j = 4 ∨ j = 5 ∨ j = 6 ∨ j = 7 ∨ j = 8 ∨ 9 ≤ j by omega) with rfl | rfl | rfl | rfl | rfl | rfl | rfl | rfl | rfl | hj
      rotate_left 9
      · obtain ⟨u, rfl⟩ : ∃ u, j = u + 9 := ⟨j - 9, by omega⟩
        rfl
      all_goals rfl
    · rcases (show q = 97 ∨ q = 98 ∨ q = 99 ∨ q = 100 ∨ q = 101 ∨ q = 102 by omega) with rfl | rfl | rfl | rfl | rfl | rfl <;> rfl
  · funext z
    simp only [ax_up, ax_ur, ax_rg, if_neg (show ¬ q = 96 by omega), if_neg (show ¬ q = 97 by omega), if_neg (show ¬ q = 98 by omega), if_neg (show ¬ q = 99 by omega), if_neg (show ¬ q = 100 by omega), if_neg (show ¬ q = 101 by omega), if_neg (show ¬ q = 102 by omega)]
  · rcases (show q = 96 ∨ q = 97 ∨ q = 98 ∨ q = 99 ∨ q = 100 ∨ q = 101 ∨ q = 102 by omega) with rfl | rfl | rfl | rfl | rfl | rfl | rfl <;> rfl
  · funext z
    simp only [ax_up, ax_ur, ax_rg, if_neg (show ¬ q = 96 by omega), if_neg (show ¬ q = 97 by omega), if_neg (show ¬ q = 98 by omega), if_neg (show ¬ q = 99 by omega), if_neg (show ¬ q = 100 by omega), if_neg (show ¬ q = 101 by omega), if_neg (show ¬ q = 102 by omega)]
  · rcases (show q = 96 ∨ 97 ≤ q by omega) with rfl | q3
    · funext j
      rcases (show j = 0 ∨ j = 1 ∨ j = 2 ∨ j = 3 ∨ j = 4 ∨ j = 5 ∨ j = 6 ∨ j = 7 ∨ j = 8 ∨ 9 ≤ j by omega) with rfl | rfl | rfl | rfl | rfl | rfl | rfl | rfl | rfl | hj
      rotate_left 9
      · obtain ⟨u, rfl⟩ : ∃ u, j = u + 9 := ⟨j - 9, by omega⟩
        rfl
      all_goals rfl
    · rcases (show q = 97 ∨ q = 98 ∨ q = 99 ∨ q = 100 ∨ q = 101 ∨ q = 102 by omega) with rfl | rfl | rfl | rfl | rfl | rfl <;> rfl
end INI
