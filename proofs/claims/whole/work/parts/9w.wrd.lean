/-! Model.word: words and their codes -/
theorem cd_inj {b b' : Nat → Nat} {p p' : Nat} : ∀ m, (∀ x, x < m → 97 ≤ b (p + x) ∧ b (p + x) ≤ 122) → (∀ x, x < m → 97 ≤ b' (p' + x) ∧ b' (p' + x) ≤ 122) → cd_ b p m = cd_ b' p' m → ∀ x, x < m → b (p + x) = b' (p' + x)
  | 0, _, _, _, x, hx => absurd hx (Nat.not_lt_zero x)
  | m + 1, h1, h2, h, x, hx => by
    have e : cd_ b p m * 32 + (b (p + m) - 96) = cd_ b' p' m * 32 + (b' (p' + m) - 96) := h
    have l1 := h1 m (by omega)
    have l2 := h2 m (by omega)
    by_cases ex : x = m
    · rw [ex]; omega
    · exact cd_inj m (fun y hy => h1 y (by omega)) (fun y hy => h2 y (by omega)) (by omega) x (by omega)
theorem cf_ne {b b' : Nat → Nat} {p p' j e : Nat} (h6 : j + e + 1 ≤ 6) (hl : 97 ≤ b' (p' + (j + e)) ∧ b' (p' + (j + e)) ≤ 122) : ¬ cf_ b p j = cf_ b' p' (j + e + 1) := by
  intro h
  unfold cf_ at h
  rw [show 6 - j = (e + 1) + (6 - (j + e + 1)) by omega, Nat.pow_add, ← Nat.mul_assoc] at h
  have h := Nat.eq_of_mul_eq_mul_right (Nat.pow_pos (by decide)) h
  have e1 : cd_ b' p' (j + e + 1) = cd_ b' p' (j + e) * 32 + (b' (p' + (j + e)) - 96) := rfl
  rw [e1, Nat.pow_succ, ← Nat.mul_assoc] at h
  generalize cd_ b p j * 32 ^ e = X at h
  omega
theorem cf_inj {b b' : Nat → Nat} {p p' j j' : Nat} (hj : j ≤ 6) (hj' : j' ≤ 6) (h1 : ∀ x, x < j → 97 ≤ b (p + x) ∧ b (p + x) ≤ 122) (h2 : ∀ x, x < j' → 97 ≤ b' (p' + x) ∧ b' (p' + x) ≤ 122) (h : cf_ b p j = cf_ b' p' j') : j = j' ∧ ∀ x, x < j → b (p + x) = b' (p' + x) := by
  have ej : j = j' := by
    rcases Nat.lt_trichotomy j j' with g | g | g
    · obtain ⟨e, rfl⟩ : ∃ e, j' = j + e + 1 := ⟨j' - j - 1, by omega⟩
      exact absurd h (cf_ne hj' (h2 (j + e) (by omega)))
    · exact g
    · obtain ⟨e, rfl⟩ : ∃ e, j = j' + e + 1 := ⟨j - j' - 1, by omega⟩
      exact absurd h.symm (cf_ne hj (h1 (j' + e) (by omega)))
  subst ej
  refine ⟨rfl, cd_inj j h1 h2 ?_⟩
  unfold cf_ at h
  exact Nat.eq_of_mul_eq_mul_right (Nat.pow_pos (by decide)) h
theorem cd_eq {b b' : Nat → Nat} {p p' : Nat} : ∀ m, (∀ x, x < m → b (p + x) = b' (p' + x)) → cd_ b p m = cd_ b' p' m
  | 0, _ => rfl
  | m + 1, h => by
    show cd_ b p m * 32 + (b (p + m) - 96) = cd_ b' p' m * 32 + (b' (p' + m) - 96)
    rw [cd_eq m (fun x hx => h x (by omega)), h m (by omega)]
def wx_ (w : Nat) : Nat := ([13, 14, 15, 3, 16, 17, 18, 19, 20, 7, 8, 9, 10, 11, 12, 0, 1, 2, 4, 5, 6] : List Nat).getD w 0
theorem wx_ok : ∀ w, w < 21 → wx_ w < 21 ∧ ww_ (20 + wx_ w) = w ∧ wc_ (wx_ w) = cf_ wm_ (wst w) (wln w) ∧ wl_ (wc_ (wx_ w)) = 20 + wx_ w := by decide +kernel
theorem xw_ok : ∀ k, k < 21 → ww_ (20 + k) < 21 ∧ wx_ (ww_ (20 + k)) = k := by decide +kernel
theorem wl_no {c : Nat} (h : ∀ k, k < 21 → ¬ wc_ k = c) : wl_ c = 2 := by
  unfold wl_
  refine it_pres (P := fun t => t = 2) (z := 2) rfl 21 (fun k x hk hx => ?_)
  rw [if_neg (h k hk)]; exact hx
theorem wq_c {B : Nat → Nat} {p j w : Nat} (hw : w < 21) (hl : ∀ x, x < j → 97 ≤ B (p + x) ∧ B (p + x) ≤ 122) : wq_ B p j w ↔ (j ≤ 6 ∧ wc_ (wx_ w) = cf_ B p j) := by
  obtain ⟨a1, a2, a3, a4⟩ := w_ok w hw
  obtain ⟨c1, c2, c3, c4⟩ := wx_ok w hw
  rw [c3]
  refine ⟨fun h => ?_, fun h => ?_⟩
  · obtain ⟨h1, h2⟩ := h
    subst h1
    refine ⟨a4, ?_⟩
    unfold cf_
    rw [cd_eq (wln w) (fun x hx => (h2 x hx).symm)]
  · obtain ⟨g1, g2⟩ := cf_inj a4 h.1 (fun x hx => w_lt w hw x (by omega) hx) hl h.2
    exact ⟨g1, fun x hx => (g2 x (by omega)).symm⟩
theorem wr_v {B : Nat → Nat} {p j : Nat} {v : Int32} (hl : ∀ x, x < j → 97 ≤ B (p + x) ∧ B (p + x) ≤ 122) (h : wr_ B p j 0 v) : v = if j ≤ 6 ∧ 20 ≤ wl_ (cf_ B p j) then nI (ww_ (wl_ (cf_ B p j))) else -1 := by
  rcases h with ⟨k, -, k2, k3, k4, -⟩ | ⟨h1, h2⟩
  · obtain ⟨g1, g2⟩ := (wq_c k2 hl).mp k3
    obtain ⟨c1, c2, c3, c4⟩ := wx_ok k k2
    rw [← g2, c4, if_pos ⟨g1, by omega⟩, c2]
    exact k4
  · rw [h2]
    by_cases e : j ≤ 6 ∧ 20 ≤ wl_ (cf_ B p j)
    · exfalso
      have : wl_ (cf_ B p j) = 2 := wl_no (fun k hk hc => by
        obtain ⟨x1, x2⟩ := xw_ok k hk
        exact h1 _ (Nat.zero_le _) x1 ((wq_c x1 hl).mpr ⟨e.1, by rw [x2]; exact hc⟩))
      omega
    · rw [if_neg e]
section WRW
variable {E : ax_E} {l : Launch} {d : Nat} {i : Nat → Nat → Int32} {lo : Nat → Nat → Int64} {L P S a b c t : Nat} {T : Nat → Nat → Int32} {H Pn C D : Nat} {Z : sp_L}
theorem c_Model_word (hok : ax_Xok E) (hw : wm_ok E) : wd_ok E l := by
  intro d i lo L P S a bb c b n p j hb h24 h23 hpj hl
  refine g_Model_word hok ?_
  refine f_Model_word rfl ?_
  simp only [x_nil, x_iconst, x_bipush, x_sipush, x_ldc, x_ldcw, x_lconst, x_ldc2, x_iload_n0, x_lload_n0, x_aload_n0, x_istore_n0, x_astore_n0, x_lstore_n0, x_iinc_0, x_iload_n1, x_lload_n1, x_aload_n1, x_istore_n1, x_astore_n1, x_lstore_n1, x_iinc_1, x_iload_n2, x_lload_n2, x_aload_n2, x_istore_n2, x_astore_n2, x_lstore_n2, x_iinc_2, x_iload_n3, x_lload_n3, x_aload_n3, x_istore_n3, x_astore_n3, x_lstore_n3, x_iinc_3, x_iload_4, x_lload_4, x_aload_4, x_istore_4, x_astore_4, x_lstore_4, x_iinc_4, x_iload_5, x_lload_5, x_aload_5, x_istore_5, x_astore_5, x_lstore_5, x_iinc_5, x_iload_6, x_lload_6, x_aload_6, x_istore_6, x_astore_6, x_lstore_6, x_iinc_6, x_iload_7, x_lload_7, x_aload_7, x_istore_7, x_astore_7, x_lstore_7, x_iinc_7, x_iload_8, x_lload_8, x_aload_8, x_istore_8, x_astore_8, x_lstore_8, x_iinc_8, x_iload_9, x_lload_9, x_aload_9, x_istore_9, x_astore_9, x_lstore_9, x_iinc_9, x_iload_10, x_lload_10, x_aload_10, x_istore_10, x_astore_10, x_lstore_10, x_iinc_10, x_iload_11, x_lload_11, x_aload_11, x_istore_11, x_astore_11, x_lstore_11, x_iinc_11, x_iload_12, x_lload_12, x_aload_12, x_istore_12, x_astore_12, x_lstore_12, x_iinc_12, x_iload_13, x_lload_13, x_aload_13, x_istore_13, x_astore_13, x_lstore_13, x_iinc_13, x_iadd, x_isub, x_imul, x_iand, x_ior, x_ixor, x_ishl, x_ishr, x_iushr, x_ladd, x_lsub, x_lmul, x_land, x_idiv, x_irem, x_ldiv, x_lrem, x_ineg, x_lneg, x_lcmp, x_i2l, x_l2i, x_dupi, x_dupr, x_dup2, x_popi, x_popr, x_goto, x_ifeq, x_ifne, x_iflt, x_ifge, x_ifgt, x_ifle, x_iceq, x_icne, x_iclt, x_icge, x_icgt, x_icle, x_tsw, x_lsw, x_iret, x_lret, x_ret, x_getr, x_geti0, x_geti1, x_puti, x_putz, x_putr, x_iald, x_bald, x_lald, x_iast, x_bast, x_last, x_alen0, x_alen1, x_new, x_newa, x_iv0, x_is0, x_ii0_2, x_ii0_4, x_iv1, x_is1, x_ii1_2, x_ii1_4, x_iv2, x_is2, x_ii2_2, x_ii2_4, x_iv3, x_is3, x_iv4, x_is4, x_iv5, x_is5, x_iv6, x_is6, x_iv7, x_is7, x_obj, x_copy, ax_il_i, ax_il_r, ax_il_n, ax_il_l, ax_sz_0, ax_sz_i, ax_sz_r, ax_sz_l, Nat.reduceAdd, Bool.false_eq_true, ↓reduceIte, true_and, and_true, Option.toList_some, Option.toList_none, List.nil_append, List.cons_append, Nat.reduceEqDiff, Nat.reduceLeDiff, Nat.le_refl, false_implies, implies_true, Nat.zero_le, Nat.add_zero, forall_const, Nat.reduceSub, Nat.succ_ne_zero, ne_eq, not_false_eq_true, reduceCtorEq, ie_10, ie_01, not_true_eq_false, not_false_eq_true, true_implies, false_implies, implies_true, and_self, and_true, true_and, true_or, or_true, rf_121_1, rf_121_3, rf_121_4, rf_121_5, rf_121_6, rf_121_7, rf_121_8, rf_121_9, rf_121_10, rf_121_11, rf_121_12, rf_121_13, rf_121_14, rf_121_15, rf_121_16, rf_121_17, rf_121_18, rf_121_19, rf_121_33, rf_121_34, rf_121_36, rf_121_37, rf_121_38, rf_121_39, rf_121_40, rf_121_41, rf_121_42, rf_121_43, rf_121_44, rf_121_45, rf_121_46, rf_121_53, rf_121_54, rf_121_58, rf_121_59, rf_121_60, rf_121_61, rf_121_64, rf_121_65, rf_121_66, rf_121_67, rf_121_68, rf_121_69, ob_121, ob_122, sh_122, rd_122, ob_123, sh_123, rd_123, ob_124, sh_124, rd_124, ob_125, sh_125, rd_125, ob_126, sh_126, rd_126, ob_127, sh_127, rd_127, ob_128, sh_128, rd_128, ob_129, sh_129, rd_129, ob_130, sh_130, rd_130, ob_131, sh_131, rd_131, ob_132, sh_132, rd_132, ob_133, sh_133, rd_133, ob_134, sh_134, rd_134, ob_135, sh_135, rd_135, ob_136, sh_136, rd_136, ob_137, sh_137, rd_137, ob_138, sh_138, rd_138, ob_139, sh_139, rd_139, ob_140, sh_140, ob_141, sh_141, ob_142, sh_142, rd_142, ob_143, sh_143, rd_143, ob_144, sh_144, rd_144, ob_145, sh_145, rd_145, ob_146, sh_146, rd_146, ob_147, sh_147, rd_147, ob_148, sh_148, rd_148, ob_149, sh_149, rd_149, ob_150, sh_150, rd_150, ob_151, sh_151, rd_151, ob_152, sh_152, rd_152, ob_153, sh_153, rd_153, ob_154, sh_154, rd_154, ob_155, sh_155, rd_155, ob_156, sh_156, rd_156, ob_157, sh_157, rd_157, ob_158, sh_158, rd_158, ob_159, sh_159, rd_159, ob_160, sh_160, rd_160, ob_161, sh_161, rd_161, ob_162, sh_162, ob_163, sh_163, rd_163, ob_164, sh_164, ob_165, sh_165, tn_0, tn_1, tn_2, tn_3, tn_4, tn_5, tn_6]
  refine t_4 hok hw hb h24 h23 hpj 21 0 rfl (fun v h => ⟨by rw [wr_v hl h], rfl⟩) _
end WRW
