/-! what a text's bytes are read as -/
def sc_ (p : Nat → Bool) : Nat → Nat → Nat
  | 0, k => k
  | m + 1, k => if p k = true then sc_ p m (k + 1) else k
def wh_ (x : Nat) : Bool := decide (x = 32) || decide (x = 10)
def lt_ (x : Nat) : Bool := decide (97 ≤ x) && decide (x ≤ 122)
def dg_ (x : Nat) : Bool := decide (48 ≤ x) && decide (x ≤ 57)
def cd_ (b : Nat → Nat) (p : Nat) : Nat → Nat
  | 0 => 0
  | m + 1 => cd_ b p m * 32 + (b (p + m) - 96)
def cf_ (b : Nat → Nat) (p m : Nat) : Nat := cd_ b p m * 32 ^ (6 - m)
def dv_ (b : Nat → Nat) (p : Nat) : Nat → Nat
  | 0 => 0
  | m + 1 => dv_ b p m * 10 + (b (p + m) - 48)
def wcl : List Nat := [217648288, 378998784, 273715808, 144285696, 43581440, 549489824, 844154880, 651342208, 486118400, 156401664, 522190848, 48365568, 486146048, 284871840, 542723566, 116445184, 150175744, 781651968, 672923648, 642945024, 404455424]
def wc_ (k : Nat) : Nat := wcl.getD k 0
def wl_ (c : Nat) : Nat := sp_it (fun k t => if wc_ k = c then 20 + k else t) 2 21
def sg_ (x : Nat) : Nat := if x = 59 then 4 else if x = 40 then 5 else if x = 41 then 6 else if x = 43 then 7 else if x = 45 then 8 else if x = 42 then 9 else if x = 47 then 10 else if x = 60 then 11 else if x = 61 then 13 else if x = 62 then 16 else 1
/-- place, where to go on, token, value -/
def tk1 (b : Nat → Nat) (n p : Nat) : Nat × Nat × Nat × Nat :=
  if n ≤ p then (p, p, 0, 0)
  else if lt_ (b p) = true then (if 6 < sc_ (fun k => lt_ (b k)) (n - p) p - p then (p, sc_ (fun k => lt_ (b k)) (n - p) p, 1, 0) else (p, sc_ (fun k => lt_ (b k)) (n - p) p, wl_ (cf_ b p (sc_ (fun k => lt_ (b k)) (n - p) p - p)), cf_ b p (sc_ (fun k => lt_ (b k)) (n - p) p - p)))
  else if dg_ (b p) = true then (p, sc_ (fun k => dg_ (b k)) (n - p) p, 3, dv_ b p (sc_ (fun k => dg_ (b k)) (n - p) p - p))
  else if n ≤ p + 1 ∨ ¬ (sg_ (b p) = 11 ∨ sg_ (b p) = 16) then (p, p + 1, sg_ (b p), 0)
  else if b (p + 1) = 61 then (p, p + 2, if sg_ (b p) = 11 then 12 else 15, 0)
  else if b (p + 1) = 62 ∧ sg_ (b p) = 11 then (p, p + 2, 14, 0)
  else (p, p + 1, sg_ (b p), 0)
def tk_s (b : Nat → Nat) (n q : Nat) : Nat × Nat × Nat × Nat := tk1 b n (sc_ (fun k => wh_ (b k)) (n - q) q)
def nr_ (x : Int32) (v : Nat) : Prop := ∃ y, y < 2 ^ 30 ∧ x = nI y ∧ (y = v ∨ (99999 < y ∧ 99999 < v))
theorem sc_le {p : Nat → Bool} : ∀ (m k : Nat), k ≤ sc_ p m k ∧ sc_ p m k ≤ k + m
  | 0, k => ⟨Nat.le_refl _, Nat.le_refl _⟩
  | m + 1, k => by
    unfold sc_
    by_cases h : p k = true
    · rw [if_pos h]
      have := sc_le (p := p) m (k + 1)
      omega
    · rw [if_neg h]; omega
theorem cd_lt {b : Nat → Nat} {p : Nat} : ∀ m, (∀ k, k < m → 96 ≤ b (p + k) ∧ b (p + k) ≤ 122) → cd_ b p m < 32 ^ m
  | 0, _ => by show 0 < 1; decide
  | m + 1, h => by
    have h1 := cd_lt m (fun k hk => h k (by omega))
    have h2 := h m (by omega)
    unfold cd_
    rw [Nat.pow_succ]
    omega
theorem sc_all {p : Nat → Bool} : ∀ (m k j : Nat), k ≤ j → j < sc_ p m k → p j = true
  | 0, k, j, h1, h2 => by unfold sc_ at h2; omega
  | m + 1, k, j, h1, h2 => by
    unfold sc_ at h2
    by_cases h : p k = true
    · rw [if_pos h] at h2
      by_cases e : j = k
      · rw [e]; exact h
      · exact sc_all m (k + 1) j (by omega) h2
    · rw [if_neg h] at h2; omega
def tb_ (i : Nat → Nat → Int32) (b : Nat → Nat) (n : Nat) : Prop := i 52 2 = nI n ∧ n ≤ 700 ∧ (∀ k, k < 700 → i 9 k = nI (b k) ∧ b k < 256) ∧ ∀ k, k < 21 → i 53 k = nI (wc_ k)
theorem wc_lt : ∀ k, k < 21 → wc_ k < 2 ^ 30 := by decide
theorem sh5 (x : Int32) : x <<< (5 &&& 31 : Int32) = x <<< (5 : Int32) := rfl
theorem sh_c : ∀ j, j ≤ 6 → ((5 * ((6 : Int32) - nI j)) &&& 31).toBitVec.smod 32 = BitVec.ofNat 32 (5 * (6 - j)) := by decide
section TOK
variable {E : ax_E} {l : Launch} {d : Nat} {i : Nat → Nat → Int32} {lo : Nat → Nat → Int64} {L P S a b c t : Nat} {T : Nat → Nat → Int32} {H Pn C D : Nat} {Z : sp_L}
theorem lp_word (hok : ax_Xok E) {b : Nat → Nat} {n p : Nat} {R : Option ax_V → ax_M → Prop} {L P S a bb c : Nat} (hb : tb_ i b n) : ∀ (m k j : Nat) (x : Int32), k + m = n → k = p + j → (j ≤ 6 → x = nI (cd_ b p j)) → (∀ q, q < j → 97 ≤ b (p + q) ∧ b (p + q) ≤ 122) →
    (∀ (x : Int32) (j : Nat), p + j = sc_ (fun k => lt_ (b k)) m k → (j ≤ 6 → x = nI (cd_ b p j)) → (∀ q, q < j → 97 ≤ b (p + q) ∧ b (p + q) ≤ 122) → ax_T E l d m_Tokens_nextWord R 78 [some (.inr (.inr (52))), some (.inl (x)), some (.inl (nI j)), none] [] (none, ax_up i 52 3 (nI (p + j)), lo, rf_ L P S a bb c) 0 0) →
    ax_T E l d m_Tokens_nextWord R 4 [some (.inr (.inr (52))), some (.inl (x)), some (.inl (nI j)), none] [] (none, ax_up i 52 3 (nI k), lo, rf_ L P S a bb c) 0 0
  | 0, k, j, x, hk, hj, hx, hq, K => by
    have h2 := hb.1
    have h3 := hb.2.1
    refine f_Tokens_nextWord rfl ?_
    simp only [x_nil, x_iconst, x_bipush, x_sipush, x_ldc, x_ldcw, x_lconst, x_ldc2, x_iload_n0, x_lload_n0, x_aload_n0, x_istore_n0, x_astore_n0, x_lstore_n0, x_iinc_0, x_iload_n1, x_lload_n1, x_aload_n1, x_istore_n1, x_astore_n1, x_lstore_n1, x_iinc_1, x_iload_n2, x_lload_n2, x_aload_n2, x_istore_n2, x_astore_n2, x_lstore_n2, x_iinc_2, x_iload_n3, x_lload_n3, x_aload_n3, x_istore_n3, x_astore_n3, x_lstore_n3, x_iinc_3, x_iload_4, x_lload_4, x_aload_4, x_istore_4, x_astore_4, x_lstore_4, x_iinc_4, x_iload_5, x_lload_5, x_aload_5, x_istore_5, x_astore_5, x_lstore_5, x_iinc_5, x_iload_6, x_lload_6, x_aload_6, x_istore_6, x_astore_6, x_lstore_6, x_iinc_6, x_iload_7, x_lload_7, x_aload_7, x_istore_7, x_astore_7, x_lstore_7, x_iinc_7, x_iload_8, x_lload_8, x_aload_8, x_istore_8, x_astore_8, x_lstore_8, x_iinc_8, x_iload_9, x_lload_9, x_aload_9, x_istore_9, x_astore_9, x_lstore_9, x_iinc_9, x_iload_10, x_lload_10, x_aload_10, x_istore_10, x_astore_10, x_lstore_10, x_iinc_10, x_iload_11, x_lload_11, x_aload_11, x_istore_11, x_astore_11, x_lstore_11, x_iinc_11, x_iload_12, x_lload_12, x_aload_12, x_istore_12, x_astore_12, x_lstore_12, x_iinc_12, x_iload_13, x_lload_13, x_aload_13, x_istore_13, x_astore_13, x_lstore_13, x_iinc_13, x_iadd, x_isub, x_imul, x_iand, x_ior, x_ixor, x_ishl, x_ishr, x_iushr, x_ladd, x_lsub, x_lmul, x_land, x_idiv, x_irem, x_ldiv, x_lrem, x_ineg, x_lneg, x_lcmp, x_i2l, x_l2i, x_dupi, x_dupr, x_dup2, x_popi, x_popr, x_goto, x_ifeq, x_ifne, x_iflt, x_ifge, x_ifgt, x_ifle, x_iceq, x_icne, x_iclt, x_icge, x_icgt, x_icle, x_tsw, x_lsw, x_iret, x_lret, x_ret, x_getr, x_geti0, x_geti1, x_puti, x_putz, x_putr, x_iald, x_bald, x_lald, x_iast, x_bast, x_last, x_alen0, x_alen1, x_new, x_newa, x_iv0, x_is0, x_ii0_2, x_ii0_4, x_iv1, x_is1, x_ii1_2, x_ii1_4, x_iv2, x_is2, x_ii2_2, x_ii2_4, x_iv3, x_is3, x_iv4, x_is4, x_iv5, x_is5, x_iv6, x_is6, x_iv7, x_is7, x_obj, x_copy, ax_il_i, ax_il_r, ax_il_n, ax_il_l, ax_sz_0, ax_sz_i, ax_sz_r, ax_sz_l, Nat.reduceAdd, Bool.false_eq_true, ↓reduceIte, true_and, and_true, Option.toList_some, Option.toList_none, List.nil_append, List.cons_append, Nat.reduceEqDiff, Nat.reduceLeDiff, Nat.le_refl, false_implies, implies_true, Nat.zero_le, Nat.add_zero, forall_const, Nat.reduceSub, Nat.succ_ne_zero, ne_eq, not_false_eq_true, reduceCtorEq, ob_51, ob_52, ob_53, sh_53, rd_53, ob_8, ob_9, sh_9, rd_9, rf_52_0, rf_52_1, ax_up_ap, ax_ur_ap, Nat.left_eq_add, Nat.add_eq_left, Nat.add_left_cancel_iff, Nat.add_right_cancel_iff, Nat.reduceEqDiff, if_true, if_false, ite_true, ite_false, h2]
    obtain rfl : n = k := by omega
    refine ⟨fun _ => ?_, fun h => absurd (nI_le (Nat.le_refl n) (by omega)) h⟩
    subst hj
    exact K x j rfl hx hq
  | m + 1, k, j, x, hk, hj, hx, hq, K => by
    have h2 := hb.1
    have h3 := hb.2.1
    obtain ⟨h4, h5⟩ := hb.2.2.1 k (by omega)
    have hcl : (nI k).toNatClampNeg = k := nI_clamp (by omega)
    refine f_Tokens_nextWord rfl ?_
    simp only [x_nil, x_iconst, x_bipush, x_sipush, x_ldc, x_ldcw, x_lconst, x_ldc2, x_iload_n0, x_lload_n0, x_aload_n0, x_istore_n0, x_astore_n0, x_lstore_n0, x_iinc_0, x_iload_n1, x_lload_n1, x_aload_n1, x_istore_n1, x_astore_n1, x_lstore_n1, x_iinc_1, x_iload_n2, x_lload_n2, x_aload_n2, x_istore_n2, x_astore_n2, x_lstore_n2, x_iinc_2, x_iload_n3, x_lload_n3, x_aload_n3, x_istore_n3, x_astore_n3, x_lstore_n3, x_iinc_3, x_iload_4, x_lload_4, x_aload_4, x_istore_4, x_astore_4, x_lstore_4, x_iinc_4, x_iload_5, x_lload_5, x_aload_5, x_istore_5, x_astore_5, x_lstore_5, x_iinc_5, x_iload_6, x_lload_6, x_aload_6, x_istore_6, x_astore_6, x_lstore_6, x_iinc_6, x_iload_7, x_lload_7, x_aload_7, x_istore_7, x_astore_7, x_lstore_7, x_iinc_7, x_iload_8, x_lload_8, x_aload_8, x_istore_8, x_astore_8, x_lstore_8, x_iinc_8, x_iload_9, x_lload_9, x_aload_9, x_istore_9, x_astore_9, x_lstore_9, x_iinc_9, x_iload_10, x_lload_10, x_aload_10, x_istore_10, x_astore_10, x_lstore_10, x_iinc_10, x_iload_11, x_lload_11, x_aload_11, x_istore_11, x_astore_11, x_lstore_11, x_iinc_11, x_iload_12, x_lload_12, x_aload_12, x_istore_12, x_astore_12, x_lstore_12, x_iinc_12, x_iload_13, x_lload_13, x_aload_13, x_istore_13, x_astore_13, x_lstore_13, x_iinc_13, x_iadd, x_isub, x_imul, x_iand, x_ior, x_ixor, x_ishl, x_ishr, x_iushr, x_ladd, x_lsub, x_lmul, x_land, x_idiv, x_irem, x_ldiv, x_lrem, x_ineg, x_lneg, x_lcmp, x_i2l, x_l2i, x_dupi, x_dupr, x_dup2, x_popi, x_popr, x_goto, x_ifeq, x_ifne, x_iflt, x_ifge, x_ifgt, x_ifle, x_iceq, x_icne, x_iclt, x_icge, x_icgt, x_icle, x_tsw, x_lsw, x_iret, x_lret, x_ret, x_getr, x_geti0, x_geti1, x_puti, x_putz, x_putr, x_iald, x_bald, x_lald, x_iast, x_bast, x_last, x_alen0, x_alen1, x_new, x_newa, x_iv0, x_is0, x_ii0_2, x_ii0_4, x_iv1, x_is1, x_ii1_2, x_ii1_4, x_iv2, x_is2, x_ii2_2, x_ii2_4, x_iv3, x_is3, x_iv4, x_is4, x_iv5, x_is5, x_iv6, x_is6, x_iv7, x_is7, x_obj, x_copy, ax_il_i, ax_il_r, ax_il_n, ax_il_l, ax_sz_0, ax_sz_i, ax_sz_r, ax_sz_l, Nat.reduceAdd, Bool.false_eq_true, ↓reduceIte, true_and, and_true, Option.toList_some, Option.toList_none, List.nil_append, List.cons_append, Nat.reduceEqDiff, Nat.reduceLeDiff, Nat.le_refl, false_implies, implies_true, Nat.zero_le, Nat.add_zero, forall_const, Nat.reduceSub, Nat.succ_ne_zero, ne_eq, not_false_eq_true, reduceCtorEq, ob_51, ob_52, ob_53, sh_53, rd_53, ob_8, ob_9, sh_9, rd_9, rf_52_0, rf_52_1, ax_up_ap, ax_ur_ap, Nat.left_eq_add, Nat.add_eq_left, Nat.add_left_cancel_iff, Nat.add_right_cancel_iff, Nat.reduceEqDiff, if_true, if_false, ite_true, ite_false, h2, hcl, h4]
    refine ax_ge (by omega) (by omega) (fun h => absurd h (by omega)) (fun _ => ?_)
    refine ⟨vp_in_nI (by omega) (by omega), ?_⟩
    have sun : sc_ (fun k => lt_ (b k)) (m + 1) k = if lt_ (b k) = true then sc_ (fun k => lt_ (b k)) m (k + 1) else k := rfl
    rw [sun] at K
    refine ⟨fun g1 => ?_, fun g1 => ?_⟩
    · have : ¬ 97 ≤ b k := fun h => nI_nlt (a := b k) (b := 97) h (by omega) g1
      rw [if_neg (by unfold lt_; simp [this])] at K
      subst hj
      exact K x j rfl hx hq
    have g1' : 97 ≤ b k := by
      apply Classical.byContradiction
      intro h
      exact g1 (nI_lt (a := b k) (b := 97) (by omega) (by omega))
    refine ⟨vp_in_nI (by omega) (by omega), ?_⟩
    refine ⟨fun g2 => ?_, fun g2 => ?_⟩
    · have : ¬ b k ≤ 122 := fun h => nI_nlt (a := 122) (b := b k) h (by omega) g2
      rw [if_neg (by unfold lt_; simp [this])] at K
      subst hj
      exact K x j rfl hx hq
    have g2' : b k ≤ 122 := by
      apply Classical.byContradiction
      intro h
      exact g2 (nI_lt (a := 122) (b := b k) (by omega) (by omega))
    rw [if_pos (by unfold lt_; simp [g1', g2'])] at K
    refine ⟨vp_in_nI (by omega) (by omega), ?_⟩
    simp only [ax_up_up, nI_1]
    refine lp_word hok hb m (k + 1) (j + 1) _ (by omega) (by omega) (fun hj6 => ?_) (fun q hq2 => ?_) K
    · have hc := cd_lt (b := b) (p := p) j (fun q hq2 => by have := hq q hq2; omega)
      have h32 : 32 ^ j ≤ 32 ^ 5 := Nat.pow_le_pow_right (by decide) (by omega)
      rw [hx (by omega), pk_shlN _ 5 (by decide) (by omega), nI_add, show (97 : Int32) = nI 97 from rfl, pk_sub (by omega), nI_1]
      have un : cd_ b p (j + 1) = cd_ b p j * 32 + (b (p + j) - 96) := rfl
      rw [un, ← hj]
      congr 1
      omega
    · by_cases e : q = j
      · rw [e, ← hj]; exact ⟨g1', g2'⟩
      · exact hq q (by omega)
theorem c_Tokens_nextWord (hok : ax_Xok E) {b : Nat → Nat} {n p : Nat} {L P S a bb c : Nat} (hb : tb_ i b n) (hp : p < n) (h3 : i 52 3 = nI p) : ax_C E l (d + 1) m_Tokens_nextWord [.inr (.inr (52))] (none, i, lo, rf_ L P S a bb c) (fun v M' => v = none ∧ ∃ i', M' = (none, i', lo, rf_ L P S a bb c) ∧ (∀ r, r ≠ 52 → i' r = i r) ∧ i' 52 2 = i 52 2 ∧ i' 52 5 = i 52 5 ∧ i' 52 3 = nI (sc_ (fun k => lt_ (b k)) (n - p) p) ∧
    (if 6 < sc_ (fun k => lt_ (b k)) (n - p) p - p then i' 52 4 = nI 1 else i' 52 4 = nI (wl_ (cf_ b p (sc_ (fun k => lt_ (b k)) (n - p) p - p))) ∧ i' 52 7 = nI (cf_ b p (sc_ (fun k => lt_ (b k)) (n - p) p - p)))) := by
  refine g_Tokens_nextWord hok ?_
  refine f_Tokens_nextWord rfl ?_
  simp only [x_nil, x_iconst, x_bipush, x_sipush, x_ldc, x_ldcw, x_lconst, x_ldc2, x_iload_n0, x_lload_n0, x_aload_n0, x_istore_n0, x_astore_n0, x_lstore_n0, x_iinc_0, x_iload_n1, x_lload_n1, x_aload_n1, x_istore_n1, x_astore_n1, x_lstore_n1, x_iinc_1, x_iload_n2, x_lload_n2, x_aload_n2, x_istore_n2, x_astore_n2, x_lstore_n2, x_iinc_2, x_iload_n3, x_lload_n3, x_aload_n3, x_istore_n3, x_astore_n3, x_lstore_n3, x_iinc_3, x_iload_4, x_lload_4, x_aload_4, x_istore_4, x_astore_4, x_lstore_4, x_iinc_4, x_iload_5, x_lload_5, x_aload_5, x_istore_5, x_astore_5, x_lstore_5, x_iinc_5, x_iload_6, x_lload_6, x_aload_6, x_istore_6, x_astore_6, x_lstore_6, x_iinc_6, x_iload_7, x_lload_7, x_aload_7, x_istore_7, x_astore_7, x_lstore_7, x_iinc_7, x_iload_8, x_lload_8, x_aload_8, x_istore_8, x_astore_8, x_lstore_8, x_iinc_8, x_iload_9, x_lload_9, x_aload_9, x_istore_9, x_astore_9, x_lstore_9, x_iinc_9, x_iload_10, x_lload_10, x_aload_10, x_istore_10, x_astore_10, x_lstore_10, x_iinc_10, x_iload_11, x_lload_11, x_aload_11, x_istore_11, x_astore_11, x_lstore_11, x_iinc_11, x_iload_12, x_lload_12, x_aload_12, x_istore_12, x_astore_12, x_lstore_12, x_iinc_12, x_iload_13, x_lload_13, x_aload_13, x_istore_13, x_astore_13, x_lstore_13, x_iinc_13, x_iadd, x_isub, x_imul, x_iand, x_ior, x_ixor, x_ishl, x_ishr, x_iushr, x_ladd, x_lsub, x_lmul, x_land, x_idiv, x_irem, x_ldiv, x_lrem, x_ineg, x_lneg, x_lcmp, x_i2l, x_l2i, x_dupi, x_dupr, x_dup2, x_popi, x_popr, x_goto, x_ifeq, x_ifne, x_iflt, x_ifge, x_ifgt, x_ifle, x_iceq, x_icne, x_iclt, x_icge, x_icgt, x_icle, x_tsw, x_lsw, x_iret, x_lret, x_ret, x_getr, x_geti0, x_geti1, x_puti, x_putz, x_putr, x_iald, x_bald, x_lald, x_iast, x_bast, x_last, x_alen0, x_alen1, x_new, x_newa, x_iv0, x_is0, x_ii0_2, x_ii0_4, x_iv1, x_is1, x_ii1_2, x_ii1_4, x_iv2, x_is2, x_ii2_2, x_ii2_4, x_iv3, x_is3, x_iv4, x_is4, x_iv5, x_is5, x_iv6, x_is6, x_iv7, x_is7, x_obj, x_copy, ax_il_i, ax_il_r, ax_il_n, ax_il_l, ax_sz_0, ax_sz_i, ax_sz_r, ax_sz_l, Nat.reduceAdd, Bool.false_eq_true, ↓reduceIte, true_and, and_true, Option.toList_some, Option.toList_none, List.nil_append, List.cons_append, Nat.reduceEqDiff, Nat.reduceLeDiff, Nat.le_refl, false_implies, implies_true, Nat.zero_le, Nat.add_zero, forall_const, Nat.reduceSub, Nat.succ_ne_zero, ne_eq, not_false_eq_true, reduceCtorEq, ob_51, ob_52, ob_53, sh_53, rd_53, ob_8, ob_9, sh_9, rd_9, rf_52_0, rf_52_1]
  have e0 : ax_up i 52 3 (nI p) = i := by rw [← h3]; exact ax_up_self i 52 3
  have hlp := lp_word hok (l := l) (d := d) (lo := lo) (L := L) (P := P) (S := S) (a := a) (bb := bb) (c := c) (R := (fun v M' => v = none ∧ ∃ i', M' = (none, i', lo, rf_ L P S a bb c) ∧ (∀ r, r ≠ 52 → i' r = i r) ∧ i' 52 2 = i 52 2 ∧ i' 52 5 = i 52 5 ∧ i' 52 3 = nI (sc_ (fun k => lt_ (b k)) (n - p) p) ∧
    (if 6 < sc_ (fun k => lt_ (b k)) (n - p) p - p then i' 52 4 = nI 1 else i' 52 4 = nI (wl_ (cf_ b p (sc_ (fun k => lt_ (b k)) (n - p) p - p))) ∧ i' 52 7 = nI (cf_ b p (sc_ (fun k => lt_ (b k)) (n - p) p - p))))) hb (p := p) (n - p) p 0 0 (by omega) rfl (fun _ => rfl) (fun q hq => absurd hq (Nat.not_lt_zero q)) ?_
  · rw [e0] at hlp
    exact hlp
  intro x j hj hx hq
  rw [← hj]
  rw [show p + j - p = j by omega]
  have hle := (sc_le (p := fun k => lt_ (b k)) (n - p) p).2
  have h700 := hb.2.1
  refine f_Tokens_nextWord rfl ?_
  simp only [x_nil, x_iconst, x_bipush, x_sipush, x_ldc, x_ldcw, x_lconst, x_ldc2, x_iload_n0, x_lload_n0, x_aload_n0, x_istore_n0, x_astore_n0, x_lstore_n0, x_iinc_0, x_iload_n1, x_lload_n1, x_aload_n1, x_istore_n1, x_astore_n1, x_lstore_n1, x_iinc_1, x_iload_n2, x_lload_n2, x_aload_n2, x_istore_n2, x_astore_n2, x_lstore_n2, x_iinc_2, x_iload_n3, x_lload_n3, x_aload_n3, x_istore_n3, x_astore_n3, x_lstore_n3, x_iinc_3, x_iload_4, x_lload_4, x_aload_4, x_istore_4, x_astore_4, x_lstore_4, x_iinc_4, x_iload_5, x_lload_5, x_aload_5, x_istore_5, x_astore_5, x_lstore_5, x_iinc_5, x_iload_6, x_lload_6, x_aload_6, x_istore_6, x_astore_6, x_lstore_6, x_iinc_6, x_iload_7, x_lload_7, x_aload_7, x_istore_7, x_astore_7, x_lstore_7, x_iinc_7, x_iload_8, x_lload_8, x_aload_8, x_istore_8, x_astore_8, x_lstore_8, x_iinc_8, x_iload_9, x_lload_9, x_aload_9, x_istore_9, x_astore_9, x_lstore_9, x_iinc_9, x_iload_10, x_lload_10, x_aload_10, x_istore_10, x_astore_10, x_lstore_10, x_iinc_10, x_iload_11, x_lload_11, x_aload_11, x_istore_11, x_astore_11, x_lstore_11, x_iinc_11, x_iload_12, x_lload_12, x_aload_12, x_istore_12, x_astore_12, x_lstore_12, x_iinc_12, x_iload_13, x_lload_13, x_aload_13, x_istore_13, x_astore_13, x_lstore_13, x_iinc_13, x_iadd, x_isub, x_imul, x_iand, x_ior, x_ixor, x_ishl, x_ishr, x_iushr, x_ladd, x_lsub, x_lmul, x_land, x_idiv, x_irem, x_ldiv, x_lrem, x_ineg, x_lneg, x_lcmp, x_i2l, x_l2i, x_dupi, x_dupr, x_dup2, x_popi, x_popr, x_goto, x_ifeq, x_ifne, x_iflt, x_ifge, x_ifgt, x_ifle, x_iceq, x_icne, x_iclt, x_icge, x_icgt, x_icle, x_tsw, x_lsw, x_iret, x_lret, x_ret, x_getr, x_geti0, x_geti1, x_puti, x_putz, x_putr, x_iald, x_bald, x_lald, x_iast, x_bast, x_last, x_alen0, x_alen1, x_new, x_newa, x_iv0, x_is0, x_ii0_2, x_ii0_4, x_iv1, x_is1, x_ii1_2, x_ii1_4, x_iv2, x_is2, x_ii2_2, x_ii2_4, x_iv3, x_is3, x_iv4, x_is4, x_iv5, x_is5, x_iv6, x_is6, x_iv7, x_is7, x_obj, x_copy, ax_il_i, ax_il_r, ax_il_n, ax_il_l, ax_sz_0, ax_sz_i, ax_sz_r, ax_sz_l, Nat.reduceAdd, Bool.false_eq_true, ↓reduceIte, true_and, and_true, Option.toList_some, Option.toList_none, List.nil_append, List.cons_append, Nat.reduceEqDiff, Nat.reduceLeDiff, Nat.le_refl, false_implies, implies_true, Nat.zero_le, Nat.add_zero, forall_const, Nat.reduceSub, Nat.succ_ne_zero, ne_eq, not_false_eq_true, reduceCtorEq, ob_51, ob_52, ob_53, sh_53, rd_53, ob_8, ob_9, sh_9, rd_9, rf_52_0, rf_52_1]
  by_cases h6 : j ≤ 6
  · refine ⟨fun _ => ?_, fun h => absurd (nI_le (a := j) (b := 6) h6 (by omega)) h⟩
    refine f_Tokens_nextWord rfl ?_
    simp only [x_nil, x_iconst, x_bipush, x_sipush, x_ldc, x_ldcw, x_lconst, x_ldc2, x_iload_n0, x_lload_n0, x_aload_n0, x_istore_n0, x_astore_n0, x_lstore_n0, x_iinc_0, x_iload_n1, x_lload_n1, x_aload_n1, x_istore_n1, x_astore_n1, x_lstore_n1, x_iinc_1, x_iload_n2, x_lload_n2, x_aload_n2, x_istore_n2, x_astore_n2, x_lstore_n2, x_iinc_2, x_iload_n3, x_lload_n3, x_aload_n3, x_istore_n3, x_astore_n3, x_lstore_n3, x_iinc_3, x_iload_4, x_lload_4, x_aload_4, x_istore_4, x_astore_4, x_lstore_4, x_iinc_4, x_iload_5, x_lload_5, x_aload_5, x_istore_5, x_astore_5, x_lstore_5, x_iinc_5, x_iload_6, x_lload_6, x_aload_6, x_istore_6, x_astore_6, x_lstore_6, x_iinc_6, x_iload_7, x_lload_7, x_aload_7, x_istore_7, x_astore_7, x_lstore_7, x_iinc_7, x_iload_8, x_lload_8, x_aload_8, x_istore_8, x_astore_8, x_lstore_8, x_iinc_8, x_iload_9, x_lload_9, x_aload_9, x_istore_9, x_astore_9, x_lstore_9, x_iinc_9, x_iload_10, x_lload_10, x_aload_10, x_istore_10, x_astore_10, x_lstore_10, x_iinc_10, x_iload_11, x_lload_11, x_aload_11, x_istore_11, x_astore_11, x_lstore_11, x_iinc_11, x_iload_12, x_lload_12, x_aload_12, x_istore_12, x_astore_12, x_lstore_12, x_iinc_12, x_iload_13, x_lload_13, x_aload_13, x_istore_13, x_astore_13, x_lstore_13, x_iinc_13, x_iadd, x_isub, x_imul, x_iand, x_ior, x_ixor, x_ishl, x_ishr, x_iushr, x_ladd, x_lsub, x_lmul, x_land, x_idiv, x_irem, x_ldiv, x_lrem, x_ineg, x_lneg, x_lcmp, x_i2l, x_l2i, x_dupi, x_dupr, x_dup2, x_popi, x_popr, x_goto, x_ifeq, x_ifne, x_iflt, x_ifge, x_ifgt, x_ifle, x_iceq, x_icne, x_iclt, x_icge, x_icgt, x_icle, x_tsw, x_lsw, x_iret, x_lret, x_ret, x_getr, x_geti0, x_geti1, x_puti, x_putz, x_putr, x_iald, x_bald, x_lald, x_iast, x_bast, x_last, x_alen0, x_alen1, x_new, x_newa, x_iv0, x_is0, x_ii0_2, x_ii0_4, x_iv1, x_is1, x_ii1_2, x_ii1_4, x_iv2, x_is2, x_ii2_2, x_ii2_4, x_iv3, x_is3, x_iv4, x_is4, x_iv5, x_is5, x_iv6, x_is6, x_iv7, x_is7, x_obj, x_copy, ax_il_i, ax_il_r, ax_il_n, ax_il_l, ax_sz_0, ax_sz_i, ax_sz_r, ax_sz_l, Nat.reduceAdd, Bool.false_eq_true, ↓reduceIte, true_and, and_true, Option.toList_some, Option.toList_none, List.nil_append, List.cons_append, Nat.reduceEqDiff, Nat.reduceLeDiff, Nat.le_refl, false_implies, implies_true, Nat.zero_le, Nat.add_zero, forall_const, Nat.reduceSub, Nat.succ_ne_zero, ne_eq, not_false_eq_true, reduceCtorEq, ob_51, ob_52, ob_53, sh_53, rd_53, ob_8, ob_9, sh_9, rd_9, rf_52_0, rf_52_1, ax_up_ap, ax_ur_ap, Nat.left_eq_add, Nat.add_eq_left, Nat.add_left_cancel_iff, Nat.add_right_cancel_iff, Nat.reduceEqDiff, if_true, if_false, ite_true, ite_false]
    have hc := cd_lt (b := b) (p := p) j (fun q hq2 => by have := hq q hq2; omega)
    have hcf : cd_ b p j * 2 ^ (5 * (6 - j)) = cf_ b p j := by
      unfold cf_
      rw [show (32 : Nat) = 2 ^ 5 from rfl, ← Nat.pow_mul]
    have hcl : cf_ b p j < 2 ^ 30 := by
      unfold cf_
      have h1 : cd_ b p j * 32 ^ (6 - j) < 32 ^ j * 32 ^ (6 - j) := Nat.mul_lt_mul_of_pos_right hc (Nat.pow_pos (by decide))
      rw [← Nat.pow_add, show j + (6 - j) = 6 by omega] at h1
      exact h1
    have hcode : nI (cd_ b p j) <<< ((5 * ((6 : Int32) - nI j)) &&& 31) = nI (cf_ b p j) := by
      rw [pk_shlN _ (5 * (6 - j)) (by rw [sh_c j h6]; simp; omega) (by rw [hcf]; omega), hcf]
    rw [hx h6, hcode]
    simp only [if_neg (show ¬ 6 < j by omega)]
    refine ax_down (P := fun k => ax_T E l d m_Tokens_nextWord _ 109 [some (.inr (.inr (52))), some (.inl (nI (cd_ b p j))), some (.inl (nI j)), some (.inl (nI k))] [] (none, ax_up (ax_up (ax_up i 52 3 (nI (p + j))) 52 7 (nI (cf_ b p j))) 52 4 (nI (sp_it (fun k t => if wc_ k = cf_ b p j then 20 + k else t) 2 k)), lo, rf_ L P S a bb c) 0 0) (n := 21) ?_ ?_
    · refine f_Tokens_nextWord rfl ?_
      simp only [x_nil, x_iconst, x_bipush, x_sipush, x_ldc, x_ldcw, x_lconst, x_ldc2, x_iload_n0, x_lload_n0, x_aload_n0, x_istore_n0, x_astore_n0, x_lstore_n0, x_iinc_0, x_iload_n1, x_lload_n1, x_aload_n1, x_istore_n1, x_astore_n1, x_lstore_n1, x_iinc_1, x_iload_n2, x_lload_n2, x_aload_n2, x_istore_n2, x_astore_n2, x_lstore_n2, x_iinc_2, x_iload_n3, x_lload_n3, x_aload_n3, x_istore_n3, x_astore_n3, x_lstore_n3, x_iinc_3, x_iload_4, x_lload_4, x_aload_4, x_istore_4, x_astore_4, x_lstore_4, x_iinc_4, x_iload_5, x_lload_5, x_aload_5, x_istore_5, x_astore_5, x_lstore_5, x_iinc_5, x_iload_6, x_lload_6, x_aload_6, x_istore_6, x_astore_6, x_lstore_6, x_iinc_6, x_iload_7, x_lload_7, x_aload_7, x_istore_7, x_astore_7, x_lstore_7, x_iinc_7, x_iload_8, x_lload_8, x_aload_8, x_istore_8, x_astore_8, x_lstore_8, x_iinc_8, x_iload_9, x_lload_9, x_aload_9, x_istore_9, x_astore_9, x_lstore_9, x_iinc_9, x_iload_10, x_lload_10, x_aload_10, x_istore_10, x_astore_10, x_lstore_10, x_iinc_10, x_iload_11, x_lload_11, x_aload_11, x_istore_11, x_astore_11, x_lstore_11, x_iinc_11, x_iload_12, x_lload_12, x_aload_12, x_istore_12, x_astore_12, x_lstore_12, x_iinc_12, x_iload_13, x_lload_13, x_aload_13, x_istore_13, x_astore_13, x_lstore_13, x_iinc_13, x_iadd, x_isub, x_imul, x_iand, x_ior, x_ixor, x_ishl, x_ishr, x_iushr, x_ladd, x_lsub, x_lmul, x_land, x_idiv, x_irem, x_ldiv, x_lrem, x_ineg, x_lneg, x_lcmp, x_i2l, x_l2i, x_dupi, x_dupr, x_dup2, x_popi, x_popr, x_goto, x_ifeq, x_ifne, x_iflt, x_ifge, x_ifgt, x_ifle, x_iceq, x_icne, x_iclt, x_icge, x_icgt, x_icle, x_tsw, x_lsw, x_iret, x_lret, x_ret, x_getr, x_geti0, x_geti1, x_puti, x_putz, x_putr, x_iald, x_bald, x_lald, x_iast, x_bast, x_last, x_alen0, x_alen1, x_new, x_newa, x_iv0, x_is0, x_ii0_2, x_ii0_4, x_iv1, x_is1, x_ii1_2, x_ii1_4, x_iv2, x_is2, x_ii2_2, x_ii2_4, x_iv3, x_is3, x_iv4, x_is4, x_iv5, x_is5, x_iv6, x_is6, x_iv7, x_is7, x_obj, x_copy, ax_il_i, ax_il_r, ax_il_n, ax_il_l, ax_sz_0, ax_sz_i, ax_sz_r, ax_sz_l, Nat.reduceAdd, Bool.false_eq_true, ↓reduceIte, true_and, and_true, Option.toList_some, Option.toList_none, List.nil_append, List.cons_append, Nat.reduceEqDiff, Nat.reduceLeDiff, Nat.le_refl, false_implies, implies_true, Nat.zero_le, Nat.add_zero, forall_const, Nat.reduceSub, Nat.succ_ne_zero, ne_eq, not_false_eq_true, reduceCtorEq, ob_51, ob_52, ob_53, sh_53, rd_53, ob_8, ob_9, sh_9, rd_9, rf_52_0, rf_52_1]
      refine ⟨fun _ => ?_, fun h => absurd (by decide) h⟩
      refine f_Tokens_nextWord rfl ?_
      simp only [x_nil, x_iconst, x_bipush, x_sipush, x_ldc, x_ldcw, x_lconst, x_ldc2, x_iload_n0, x_lload_n0, x_aload_n0, x_istore_n0, x_astore_n0, x_lstore_n0, x_iinc_0, x_iload_n1, x_lload_n1, x_aload_n1, x_istore_n1, x_astore_n1, x_lstore_n1, x_iinc_1, x_iload_n2, x_lload_n2, x_aload_n2, x_istore_n2, x_astore_n2, x_lstore_n2, x_iinc_2, x_iload_n3, x_lload_n3, x_aload_n3, x_istore_n3, x_astore_n3, x_lstore_n3, x_iinc_3, x_iload_4, x_lload_4, x_aload_4, x_istore_4, x_astore_4, x_lstore_4, x_iinc_4, x_iload_5, x_lload_5, x_aload_5, x_istore_5, x_astore_5, x_lstore_5, x_iinc_5, x_iload_6, x_lload_6, x_aload_6, x_istore_6, x_astore_6, x_lstore_6, x_iinc_6, x_iload_7, x_lload_7, x_aload_7, x_istore_7, x_astore_7, x_lstore_7, x_iinc_7, x_iload_8, x_lload_8, x_aload_8, x_istore_8, x_astore_8, x_lstore_8, x_iinc_8, x_iload_9, x_lload_9, x_aload_9, x_istore_9, x_astore_9, x_lstore_9, x_iinc_9, x_iload_10, x_lload_10, x_aload_10, x_istore_10, x_astore_10, x_lstore_10, x_iinc_10, x_iload_11, x_lload_11, x_aload_11, x_istore_11, x_astore_11, x_lstore_11, x_iinc_11, x_iload_12, x_lload_12, x_aload_12, x_istore_12, x_astore_12, x_lstore_12, x_iinc_12, x_iload_13, x_lload_13, x_aload_13, x_istore_13, x_astore_13, x_lstore_13, x_iinc_13, x_iadd, x_isub, x_imul, x_iand, x_ior, x_ixor, x_ishl, x_ishr, x_iushr, x_ladd, x_lsub, x_lmul, x_land, x_idiv, x_irem, x_ldiv, x_lrem, x_ineg, x_lneg, x_lcmp, x_i2l, x_l2i, x_dupi, x_dupr, x_dup2, x_popi, x_popr, x_goto, x_ifeq, x_ifne, x_iflt, x_ifge, x_ifgt, x_ifle, x_iceq, x_icne, x_iclt, x_icge, x_icgt, x_icle, x_tsw, x_lsw, x_iret, x_lret, x_ret, x_getr, x_geti0, x_geti1, x_puti, x_putz, x_putr, x_iald, x_bald, x_lald, x_iast, x_bast, x_last, x_alen0, x_alen1, x_new, x_newa, x_iv0, x_is0, x_ii0_2, x_ii0_4, x_iv1, x_is1, x_ii1_2, x_ii1_4, x_iv2, x_is2, x_ii2_2, x_ii2_4, x_iv3, x_is3, x_iv4, x_is4, x_iv5, x_is5, x_iv6, x_is6, x_iv7, x_is7, x_obj, x_copy, ax_il_i, ax_il_r, ax_il_n, ax_il_l, ax_sz_0, ax_sz_i, ax_sz_r, ax_sz_l, Nat.reduceAdd, Bool.false_eq_true, ↓reduceIte, true_and, and_true, Option.toList_some, Option.toList_none, List.nil_append, List.cons_append, Nat.reduceEqDiff, Nat.reduceLeDiff, Nat.le_refl, false_implies, implies_true, Nat.zero_le, Nat.add_zero, forall_const, Nat.reduceSub, Nat.succ_ne_zero, ne_eq, not_false_eq_true, reduceCtorEq, ob_51, ob_52, ob_53, sh_53, rd_53, ob_8, ob_9, sh_9, rd_9, rf_52_0, rf_52_1]
      refine ⟨_, rfl, fun r hr => ?_, ?_, ?_, ?_, ?_, ?_⟩
      · rw [ax_up_r _ _ _ hr, ax_up_r _ _ _ hr, ax_up_r _ _ _ hr]
      all_goals simp only [ax_up_ap, ax_ur_ap, Nat.left_eq_add, Nat.add_eq_left, Nat.add_left_cancel_iff, Nat.add_right_cancel_iff, Nat.reduceEqDiff, if_true, if_false, ite_true, ite_false]
      rfl
    · intro k hk ih
      have hw := hb.2.2.2 k hk
      have hcl2 : (nI k).toNatClampNeg = k := nI_clamp (by omega)
      refine f_Tokens_nextWord rfl ?_
      simp only [x_nil, x_iconst, x_bipush, x_sipush, x_ldc, x_ldcw, x_lconst, x_ldc2, x_iload_n0, x_lload_n0, x_aload_n0, x_istore_n0, x_astore_n0, x_lstore_n0, x_iinc_0, x_iload_n1, x_lload_n1, x_aload_n1, x_istore_n1, x_astore_n1, x_lstore_n1, x_iinc_1, x_iload_n2, x_lload_n2, x_aload_n2, x_istore_n2, x_astore_n2, x_lstore_n2, x_iinc_2, x_iload_n3, x_lload_n3, x_aload_n3, x_istore_n3, x_astore_n3, x_lstore_n3, x_iinc_3, x_iload_4, x_lload_4, x_aload_4, x_istore_4, x_astore_4, x_lstore_4, x_iinc_4, x_iload_5, x_lload_5, x_aload_5, x_istore_5, x_astore_5, x_lstore_5, x_iinc_5, x_iload_6, x_lload_6, x_aload_6, x_istore_6, x_astore_6, x_lstore_6, x_iinc_6, x_iload_7, x_lload_7, x_aload_7, x_istore_7, x_astore_7, x_lstore_7, x_iinc_7, x_iload_8, x_lload_8, x_aload_8, x_istore_8, x_astore_8, x_lstore_8, x_iinc_8, x_iload_9, x_lload_9, x_aload_9, x_istore_9, x_astore_9, x_lstore_9, x_iinc_9, x_iload_10, x_lload_10, x_aload_10, x_istore_10, x_astore_10, x_lstore_10, x_iinc_10, x_iload_11, x_lload_11, x_aload_11, x_istore_11, x_astore_11, x_lstore_11, x_iinc_11, x_iload_12, x_lload_12, x_aload_12, x_istore_12, x_astore_12, x_lstore_12, x_iinc_12, x_iload_13, x_lload_13, x_aload_13, x_istore_13, x_astore_13, x_lstore_13, x_iinc_13, x_iadd, x_isub, x_imul, x_iand, x_ior, x_ixor, x_ishl, x_ishr, x_iushr, x_ladd, x_lsub, x_lmul, x_land, x_idiv, x_irem, x_ldiv, x_lrem, x_ineg, x_lneg, x_lcmp, x_i2l, x_l2i, x_dupi, x_dupr, x_dup2, x_popi, x_popr, x_goto, x_ifeq, x_ifne, x_iflt, x_ifge, x_ifgt, x_ifle, x_iceq, x_icne, x_iclt, x_icge, x_icgt, x_icle, x_tsw, x_lsw, x_iret, x_lret, x_ret, x_getr, x_geti0, x_geti1, x_puti, x_putz, x_putr, x_iald, x_bald, x_lald, x_iast, x_bast, x_last, x_alen0, x_alen1, x_new, x_newa, x_iv0, x_is0, x_ii0_2, x_ii0_4, x_iv1, x_is1, x_ii1_2, x_ii1_4, x_iv2, x_is2, x_ii2_2, x_ii2_4, x_iv3, x_is3, x_iv4, x_is4, x_iv5, x_is5, x_iv6, x_is6, x_iv7, x_is7, x_obj, x_copy, ax_il_i, ax_il_r, ax_il_n, ax_il_l, ax_sz_0, ax_sz_i, ax_sz_r, ax_sz_l, Nat.reduceAdd, Bool.false_eq_true, ↓reduceIte, true_and, and_true, Option.toList_some, Option.toList_none, List.nil_append, List.cons_append, Nat.reduceEqDiff, Nat.reduceLeDiff, Nat.le_refl, false_implies, implies_true, Nat.zero_le, Nat.add_zero, forall_const, Nat.reduceSub, Nat.succ_ne_zero, ne_eq, not_false_eq_true, reduceCtorEq, ob_51, ob_52, ob_53, sh_53, rd_53, ob_8, ob_9, sh_9, rd_9, rf_52_0, rf_52_1, ax_up_ap, ax_ur_ap, Nat.left_eq_add, Nat.add_eq_left, Nat.add_left_cancel_iff, Nat.add_right_cancel_iff, Nat.reduceEqDiff, if_true, if_false, ite_true, ite_false, hw, hcl2]
      refine ax_ge (a := k) (b := 21) (by omega) (by omega) (fun h => absurd h (by omega)) (fun _ => ?_)
      refine ⟨vp_in_nI (by omega) (by omega), ?_⟩
      have un : sp_it (fun k t => if wc_ k = cf_ b p j then 20 + k else t) 2 (k + 1) = if wc_ k = cf_ b p j then 20 + k else sp_it (fun k t => if wc_ k = cf_ b p j then 20 + k else t) 2 k := rfl
      rw [un] at ih
      have hwl := wc_lt k hk
      refine ⟨fun g => ?_, fun g => ?_⟩
      · rw [if_neg (fun h => g (by rw [h]))] at ih
        refine f_Tokens_nextWord rfl ?_
        simp only [x_nil, x_iconst, x_bipush, x_sipush, x_ldc, x_ldcw, x_lconst, x_ldc2, x_iload_n0, x_lload_n0, x_aload_n0, x_istore_n0, x_astore_n0, x_lstore_n0, x_iinc_0, x_iload_n1, x_lload_n1, x_aload_n1, x_istore_n1, x_astore_n1, x_lstore_n1, x_iinc_1, x_iload_n2, x_lload_n2, x_aload_n2, x_istore_n2, x_astore_n2, x_lstore_n2, x_iinc_2, x_iload_n3, x_lload_n3, x_aload_n3, x_istore_n3, x_astore_n3, x_lstore_n3, x_iinc_3, x_iload_4, x_lload_4, x_aload_4, x_istore_4, x_astore_4, x_lstore_4, x_iinc_4, x_iload_5, x_lload_5, x_aload_5, x_istore_5, x_astore_5, x_lstore_5, x_iinc_5, x_iload_6, x_lload_6, x_aload_6, x_istore_6, x_astore_6, x_lstore_6, x_iinc_6, x_iload_7, x_lload_7, x_aload_7, x_istore_7, x_astore_7, x_lstore_7, x_iinc_7, x_iload_8, x_lload_8, x_aload_8, x_istore_8, x_astore_8, x_lstore_8, x_iinc_8, x_iload_9, x_lload_9, x_aload_9, x_istore_9, x_astore_9, x_lstore_9, x_iinc_9, x_iload_10, x_lload_10, x_aload_10, x_istore_10, x_astore_10, x_lstore_10, x_iinc_10, x_iload_11, x_lload_11, x_aload_11, x_istore_11, x_astore_11, x_lstore_11, x_iinc_11, x_iload_12, x_lload_12, x_aload_12, x_istore_12, x_astore_12, x_lstore_12, x_iinc_12, x_iload_13, x_lload_13, x_aload_13, x_istore_13, x_astore_13, x_lstore_13, x_iinc_13, x_iadd, x_isub, x_imul, x_iand, x_ior, x_ixor, x_ishl, x_ishr, x_iushr, x_ladd, x_lsub, x_lmul, x_land, x_idiv, x_irem, x_ldiv, x_lrem, x_ineg, x_lneg, x_lcmp, x_i2l, x_l2i, x_dupi, x_dupr, x_dup2, x_popi, x_popr, x_goto, x_ifeq, x_ifne, x_iflt, x_ifge, x_ifgt, x_ifle, x_iceq, x_icne, x_iclt, x_icge, x_icgt, x_icle, x_tsw, x_lsw, x_iret, x_lret, x_ret, x_getr, x_geti0, x_geti1, x_puti, x_putz, x_putr, x_iald, x_bald, x_lald, x_iast, x_bast, x_last, x_alen0, x_alen1, x_new, x_newa, x_iv0, x_is0, x_ii0_2, x_ii0_4, x_iv1, x_is1, x_ii1_2, x_ii1_4, x_iv2, x_is2, x_ii2_2, x_ii2_4, x_iv3, x_is3, x_iv4, x_is4, x_iv5, x_is5, x_iv6, x_is6, x_iv7, x_is7, x_obj, x_copy, ax_il_i, ax_il_r, ax_il_n, ax_il_l, ax_sz_0, ax_sz_i, ax_sz_r, ax_sz_l, Nat.reduceAdd, Bool.false_eq_true, ↓reduceIte, true_and, and_true, Option.toList_some, Option.toList_none, List.nil_append, List.cons_append, Nat.reduceEqDiff, Nat.reduceLeDiff, Nat.le_refl, false_implies, implies_true, Nat.zero_le, Nat.add_zero, forall_const, Nat.reduceSub, Nat.succ_ne_zero, ne_eq, not_false_eq_true, reduceCtorEq, ob_51, ob_52, ob_53, sh_53, rd_53, ob_8, ob_9, sh_9, rd_9, rf_52_0, rf_52_1, nI_1]
        exact ih
      · rw [if_pos ((nI_eq (by omega) (by omega)).mp g)] at ih
        refine f_Tokens_nextWord rfl ?_
        simp only [x_nil, x_iconst, x_bipush, x_sipush, x_ldc, x_ldcw, x_lconst, x_ldc2, x_iload_n0, x_lload_n0, x_aload_n0, x_istore_n0, x_astore_n0, x_lstore_n0, x_iinc_0, x_iload_n1, x_lload_n1, x_aload_n1, x_istore_n1, x_astore_n1, x_lstore_n1, x_iinc_1, x_iload_n2, x_lload_n2, x_aload_n2, x_istore_n2, x_astore_n2, x_lstore_n2, x_iinc_2, x_iload_n3, x_lload_n3, x_aload_n3, x_istore_n3, x_astore_n3, x_lstore_n3, x_iinc_3, x_iload_4, x_lload_4, x_aload_4, x_istore_4, x_astore_4, x_lstore_4, x_iinc_4, x_iload_5, x_lload_5, x_aload_5, x_istore_5, x_astore_5, x_lstore_5, x_iinc_5, x_iload_6, x_lload_6, x_aload_6, x_istore_6, x_astore_6, x_lstore_6, x_iinc_6, x_iload_7, x_lload_7, x_aload_7, x_istore_7, x_astore_7, x_lstore_7, x_iinc_7, x_iload_8, x_lload_8, x_aload_8, x_istore_8, x_astore_8, x_lstore_8, x_iinc_8, x_iload_9, x_lload_9, x_aload_9, x_istore_9, x_astore_9, x_lstore_9, x_iinc_9, x_iload_10, x_lload_10, x_aload_10, x_istore_10, x_astore_10, x_lstore_10, x_iinc_10, x_iload_11, x_lload_11, x_aload_11, x_istore_11, x_astore_11, x_lstore_11, x_iinc_11, x_iload_12, x_lload_12, x_aload_12, x_istore_12, x_astore_12, x_lstore_12, x_iinc_12, x_iload_13, x_lload_13, x_aload_13, x_istore_13, x_astore_13, x_lstore_13, x_iinc_13, x_iadd, x_isub, x_imul, x_iand, x_ior, x_ixor, x_ishl, x_ishr, x_iushr, x_ladd, x_lsub, x_lmul, x_land, x_idiv, x_irem, x_ldiv, x_lrem, x_ineg, x_lneg, x_lcmp, x_i2l, x_l2i, x_dupi, x_dupr, x_dup2, x_popi, x_popr, x_goto, x_ifeq, x_ifne, x_iflt, x_ifge, x_ifgt, x_ifle, x_iceq, x_icne, x_iclt, x_icge, x_icgt, x_icle, x_tsw, x_lsw, x_iret, x_lret, x_ret, x_getr, x_geti0, x_geti1, x_puti, x_putz, x_putr, x_iald, x_bald, x_lald, x_iast, x_bast, x_last, x_alen0, x_alen1, x_new, x_newa, x_iv0, x_is0, x_ii0_2, x_ii0_4, x_iv1, x_is1, x_ii1_2, x_ii1_4, x_iv2, x_is2, x_ii2_2, x_ii2_4, x_iv3, x_is3, x_iv4, x_is4, x_iv5, x_is5, x_iv6, x_is6, x_iv7, x_is7, x_obj, x_copy, ax_il_i, ax_il_r, ax_il_n, ax_il_l, ax_sz_0, ax_sz_i, ax_sz_r, ax_sz_l, Nat.reduceAdd, Bool.false_eq_true, ↓reduceIte, true_and, and_true, Option.toList_some, Option.toList_none, List.nil_append, List.cons_append, Nat.reduceEqDiff, Nat.reduceLeDiff, Nat.le_refl, false_implies, implies_true, Nat.zero_le, Nat.add_zero, forall_const, Nat.reduceSub, Nat.succ_ne_zero, ne_eq, not_false_eq_true, reduceCtorEq, ob_51, ob_52, ob_53, sh_53, rd_53, ob_8, ob_9, sh_9, rd_9, rf_52_0, rf_52_1, nI_1, ax_up_up]
        rw [show (20 : Int32) = nI 20 from rfl, nI_add]
        exact ih
  · refine ⟨fun h => absurd h (nI_ge (a := 6) (b := j) (by omega) (by omega)), fun _ => ?_⟩
    simp only [if_pos (show 6 < j by omega)]
    refine ⟨_, rfl, fun r hr => ?_, ?_, ?_, ?_, ?_⟩
    · rw [ax_up_r _ _ _ hr, ax_up_r _ _ _ hr]
    all_goals simp only [ax_up_ap, ax_ur_ap, Nat.left_eq_add, Nat.add_eq_left, Nat.add_left_cancel_iff, Nat.add_right_cancel_iff, Nat.reduceEqDiff, if_true, if_false, ite_true, ite_false]
    rfl
end TOK
