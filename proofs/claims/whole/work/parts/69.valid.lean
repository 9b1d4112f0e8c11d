/-! the next states hold what the state holds -/
theorem tk_T4 {F : sF} {s : sT} {p h : Nat} (hh : h < F.1) (t : tk_ F s) : tk_ F (ax_up s.1 4 p (nI h), s.2) := by
  obtain ⟨⟨b1, b2, b3, b4⟩, ⟨c1, c2, c3⟩, d⟩ := t
  refine ⟨⟨b1, fun q hq => ?_, b3, b4⟩, ⟨c1, c2, c3⟩, d⟩
  simp only [ax_up_ap, ax_ur_ap, Nat.left_eq_add, Nat.add_eq_left, Nat.add_left_cancel_iff, Nat.add_right_cancel_iff, Nat.reduceEqDiff, if_true, if_false, ite_true, ite_false]
  by_cases e : q = p
  · simp only [e, if_true]
    refine ⟨⟨h, hh, rfl⟩, ?_⟩
    rw [← e]
    exact (b2 q hq).2
  · simp only [e, if_false]; exact b2 q hq
theorem tk_T13 {F : sF} {s : sT} {p h : Nat} (hh : h < F.1) (t : tk_ F s) : tk_ F (ax_up s.1 13 p (nI h), s.2) := by
  obtain ⟨⟨b1, b2, b3, b4⟩, ⟨c1, c2, c3⟩, d⟩ := t
  refine ⟨⟨b1, b2, b3, fun q hq => ?_⟩, ⟨c1, c2, c3⟩, d⟩
  simp only [ax_up_ap, ax_ur_ap, Nat.left_eq_add, Nat.add_eq_left, Nat.add_left_cancel_iff, Nat.add_right_cancel_iff, Nat.reduceEqDiff, if_true, if_false, ite_true, ite_false]
  by_cases e : q = p
  · simp only [e, if_true]; exact ⟨h, hh, rfl⟩
  · simp only [e, if_false]; exact b4 q hq
theorem tk_T1 {F : sF} {s : sT} {p : Nat} {v : Int32} (t : tk_ F s) : tk_ F (ax_up s.1 1 p v, s.2) := by
  obtain ⟨⟨b1, b2, b3, b4⟩, ⟨c1, c2, c3⟩, d⟩ := t
  exact ⟨⟨b1, b2, b3, b4⟩, ⟨c1, c2, c3⟩, d⟩
theorem tk_T15 {F : sF} {s : sT} {x : Nat} (hx : x ≤ 100) (t : tk_ F s) : tk_ F (ax_up s.1 15 0 (nI x), s.2) := by
  obtain ⟨⟨b1, b2, b3, b4⟩, ⟨c1, c2, c3⟩, d⟩ := t
  exact ⟨⟨b1, b2, b3, b4⟩, ⟨c1, c2, x, hx, show ax_up s.1 15 0 (nI x) 15 0 = _ from ax_up_s _ _ _ _⟩, d⟩
theorem tk_T7 {F : sF} {s : sT} {m : Nat} (hm : m < 512) (t : tk_ F s) : tk_ F (ax_up s.1 7 0 (nI m), s.2) := by
  obtain ⟨⟨b1, b2, b3, b4⟩, ⟨c1, c2, c3⟩, d⟩ := t
  exact ⟨⟨b1, b2, b3, b4⟩, ⟨c1, c2, c3⟩, m, hm, show ax_up s.1 7 0 (nI m) 7 0 = _ from ax_up_s _ _ _ _⟩
theorem tk_hg {F : sF} {s : sT} {h k f : Nat} (hh : h < F.1) (hk : k < 8) (hf : f ≤ 9) (h12 : s.2 < 12) (t : tk_ F s) : tk_ F (sp_hg s (nI h) (nI k) (nI f)) := by
  obtain ⟨⟨⟨b1, b1', b1'', b1'''⟩, b2, b3, b4⟩, ⟨c1, c2, c3⟩, d⟩ := t
  unfold sp_hg
  refine ⟨⟨⟨b1, b1', by show s.2 + 1 ≤ 12; omega, b1'''⟩, b2, fun q hq => ?_, b4⟩, ⟨c1, fun q hq => ?_, c3⟩, d⟩
  · replace hq : q < s.2 + 1 := hq
    simp only [ax_up_ap, ax_ur_ap, Nat.left_eq_add, Nat.add_eq_left, Nat.add_left_cancel_iff, Nat.add_right_cancel_iff, Nat.reduceEqDiff, if_true, if_false, ite_true, ite_false]
    by_cases e : q = s.2
    · simp only [e, if_true]; exact ⟨⟨h, hh, rfl⟩, k, hk, rfl⟩
    · simp only [e, if_false]; exact b3 q (by omega)
  · replace hq : q < s.2 + 1 := hq
    simp only [ax_up_ap, ax_ur_ap, Nat.left_eq_add, Nat.add_eq_left, Nat.add_left_cancel_iff, Nat.add_right_cancel_iff, Nat.reduceEqDiff, if_true, if_false, ite_true, ite_false]
    by_cases e : q = s.2
    · simp only [e, if_true]; exact ⟨f, hf, rfl⟩
    · simp only [e, if_false]; exact c2 q (by omega)
theorem sp_fd_nI : ∀ x, x ≤ 9 → ∃ y, y ≤ 9 ∧ sp_fd (nI x) = nI y := by
  intro x hx
  unfold sp_fd
  by_cases h : nI x ≤ 0
  · rw [if_pos h]; exact ⟨x, hx, rfl⟩
  · rw [if_neg h]
    have : x ≠ 0 := fun e => h (by rw [e]; decide)
    obtain ⟨y, rfl⟩ : ∃ y, x = y + 1 := ⟨x - 1, by omega⟩
    exact ⟨y, by omega, nI_pred y⟩
theorem tk_yr {F : sF} {s : sT} (t : tk_ F s) : tk_ F (sp_yr F.2.2.2.1 s.1 F.1 F.2.1 s.2 F.2.2.1, s.2) := by
  obtain ⟨b, ⟨c1, c2, c3⟩, d⟩ := t
  refine ⟨wf_yr b, ⟨c1, fun q hq => ?_, c3⟩, 0, by decide, rfl⟩
  obtain ⟨x, hx, ex⟩ := c2 q hq
  obtain ⟨y, hy, ey⟩ := sp_fd_nI x hx
  refine ⟨y, hy, ?_⟩
  show (if q < s.2 then sp_fd (s.1 11 q) else s.1 11 q) = nI y
  rw [if_pos hq, ex, ey]
theorem tk_ny {F : sF} {s : sT} (t : tk_ F s) : ∀ n, tk_ F (sp_ny F s n)
  | 0 => t
  | n + 1 => by
    have e : sp_ny F s (n + 1) = (sp_yr F.2.2.2.1 (sp_ny F s n).1 F.1 F.2.1 (sp_ny F s n).2 F.2.2.1, (sp_ny F s n).2) := rfl
    rw [e]
    exact tk_yr (tk_ny t n)
theorem vA_move {F : sF} {A : sA} {x y : Int32} (hv : vA F A) : vA F (u_move F A x y).2 := by
  obtain ⟨⟨w1, w2, w3, w4⟩, -⟩ := hv.1.1
  unfold u_move
  rcases ix_c x F.2.1 (by omega) with e | ⟨p, hp, e, rfl⟩
  · rw [e]; exact hv
  rw [e]
  rcases ix_c y F.1 (by omega) with e | ⟨h, hh, e, rfl⟩
  · rw [e]; exact hv
  rw [e]
  show vA F (if A.1.1 4 p = nI h then (0, A) else _).2
  by_cases g : A.1.1 4 p = nI h
  · rw [if_pos g]; exact hv
  · rw [if_neg g]; exact vA_pA hv (tk_T4 hh hv.1)
theorem vA_send {F : sF} {A : sA} {x y : Int32} (hv : vA F A) : vA F (u_send F A x y).2 := by
  obtain ⟨⟨w1, w2, w3, w4⟩, -⟩ := hv.1.1
  unfold u_send
  rcases ix_c x F.2.2.1 (by omega) with e | ⟨p, hp, e, rfl⟩
  · rw [e]; exact hv
  rw [e]
  rcases ix_c y F.1 (by omega) with e | ⟨h, hh, e, rfl⟩
  · rw [e]; exact hv
  rw [e]
  show vA F (if A.1.1 13 p = nI h then (0, A) else _).2
  by_cases g : A.1.1 13 p = nI h
  · rw [if_pos g]; exact hv
  · rw [if_neg g]; exact vA_pA hv (tk_T13 hh hv.1)
theorem vA_cook {F : sF} {A : sA} {x y : Int32} (hv : vA F A) : vA F (u_cook F A x y).2 := by
  obtain ⟨⟨w1, w2, w3, w4⟩, -⟩ := hv.1.1
  unfold u_cook
  rcases ix_c x F.1 (by omega) with e | ⟨p, hp, e, rfl⟩
  · rw [e]; exact hv
  rw [e]
  show vA F (if y < 0 ∨ 99 < y ∨ A.1.1 1 p = y then (0, A) else _).2
  by_cases g : y < 0 ∨ 99 < y ∨ A.1.1 1 p = y
  · rw [if_pos g]; exact hv
  · rw [if_neg g]; exact vA_pA hv (tk_T1 hv.1)
theorem vA_blow {F : sF} {A : sA} {y : Int32} (hv : vA F A) : vA F (u_blow A y).2 := by
  unfold u_blow
  by_cases g : y < 0 ∨ 100 < y ∨ A.1.1 15 0 = y
  · rw [if_pos g]; exact hv
  · rw [if_neg g]
    obtain ⟨m, hm, rfl⟩ := nI_of (x := y) (fun h => g (Or.inl h))
    have : m ≤ 100 := by
      apply Classical.byContradiction
      intro h
      exact g (Or.inr (Or.inl (nI_lt (a := 100) (by omega) hm)))
    exact vA_pA hv (tk_T15 this hv.1)
theorem vA_wash {F : sF} {A : sA} {x z : Int32} (hz : z = 0 ∨ z = 1) (hv : vA F A) : vA F (u_wash F A x z).2 := by
  obtain ⟨⟨w1, w2, w3, w4⟩, -⟩ := hv.1.1
  obtain ⟨m, hm, em⟩ := hv.1.2.2
  unfold u_wash
  rcases ix_c x F.2.1 (by omega) with e | ⟨p, hp, e, rfl⟩
  · rw [e]; exact hv
  rw [e]
  show vA F (if (if (A.1.1 7 0 >>> (nI p &&& 31)) &&& 1 = 1 then (1 : Int32) else 0) = z then (0, A) else _).2
  by_cases g : (if (A.1.1 7 0 >>> (nI p &&& 31)) &&& 1 = 1 then (1 : Int32) else 0) = z
  · rw [if_pos g]; exact hv
  · rw [if_neg g]
    obtain ⟨b1, b2⟩ := cl_back m hm p (by omega)
    rw [← em] at b1 b2
    have : ∃ k, k < 512 ∧ sp_cl (A.1.1 7 0) p z = nI k := by
      by_cases hb : (A.1.1 7 0 >>> (nI p &&& 31)) &&& 1 = 1
      · rw [if_pos hb] at g
        rcases hz with rfl | rfl
        · exact (b1 hb).2
        · exact absurd rfl g
      · rw [if_neg hb] at g
        rcases hz with rfl | rfl
        · exact absurd rfl g
        · exact (b2 hb).2
    obtain ⟨k, hk, ek⟩ := this
    refine vA_pA hv ?_
    rw [ek]
    exact tk_T7 hk hv.1
theorem vA_hang {F : sF} {A : sA} {x y f : Int32} (hv : vA F A) : vA F (u_hang F A x y f).2 := by
  obtain ⟨⟨w1, w2, w3, w4⟩, -⟩ := hv.1.1
  unfold u_hang
  rcases ix_c x F.1 (by omega) with e | ⟨h, hh, e, rfl⟩
  · rw [e]; exact hv
  rw [e]
  rcases ix_c y 8 (by omega) with e | ⟨k, hk, e, rfl⟩
  · rw [e]; exact hv
  rw [e]
  show vA F (if f < 1 ∨ 9 < f ∨ ¬ A.1.2 < 12 then (-1, A) else _).2
  by_cases g : f < 1 ∨ 9 < f ∨ ¬ A.1.2 < 12
  · rw [if_pos g]; exact hv
  · rw [if_neg g]
    have h0 : ¬ f < 0 := fun h => g (Or.inl (Int32.lt_iff_toInt_lt.mpr (by have := Int32.lt_iff_toInt_lt.mp h; simp at this ⊢; omega)))
    obtain ⟨m, hm, rfl⟩ := nI_of h0
    have : m ≤ 9 := by
      apply Classical.byContradiction
      intro h
      exact g (Or.inr (Or.inl (nI_lt (a := 9) (by omega) hm)))
    exact vA_pA hv (tk_hg hh hk this (by apply Classical.byContradiction; intro h; exact g (Or.inr (Or.inr h))) hv.1)
theorem vA_years {F : sF} {A : sA} {x : Int32} (hv : vA F A) : vA F (u_years F A x).2 := by
  unfold u_years
  split
  · exact hv
  · refine ⟨tk_ny hv.1 _, ?_, fun k hk => ?_⟩
    · show (if x = 0 then A.2.1 else 0) ≤ 20
      split
      · exact hv.2.1
      · omega
    · replace hk : k < (if x = 0 then A.2.1 else 0) := hk
      split at hk
      · exact hv.2.2 k hk
      · omega
theorem vA_undo {F : sF} {A : sA} (hv : vA F A) : vA F (u_undo A).2 := by
  unfold u_undo
  split
  · exact hv
  · have h20 := hv.2.1
    exact ⟨hv.2.2 _ (by omega), by show A.2.1 - 1 ≤ 20; omega, fun k hk => hv.2.2 k (by have hk : k < A.2.1 - 1 := hk; omega)⟩
theorem vA_back {F : sF} {A : sA} {I : sI} (hv : vA F A) (hI : vI F I) : vA F (u_back A I).2 := by
  unfold u_back
  split
  · rename_i h
    exact ⟨hI h, by show 0 ≤ 20; omega, fun k hk => absurd hk (Nat.not_lt_zero k)⟩
  · exact hv
theorem vN_note {F : sF} {N : sN} {y x w z : Int32} (hH : F.1 ≤ 7) (hz : z = 0 ∨ z = 1) (hv : vN F N) : vN F (u_note F N y x w z).2 := by
  obtain ⟨v1, v2, v3⟩ := hv
  unfold u_note
  by_cases g : y < 0 ∨ 8 < y
  · rw [if_pos g]; exact ⟨v1, v2, v3⟩
  rw [if_neg g]
  rcases ix_c x F.1 (by omega) with e | ⟨h, hh, e, rfl⟩
  · rw [e]; exact ⟨v1, v2, v3⟩
  rw [e]
  show vN F (if w < 0 ∨ ¬ w ≤ 8 then (-1, N) else if N.1 = 24 then (-1, N) else _).2
  by_cases g2 : w < 0 ∨ ¬ w ≤ 8
  · rw [if_pos g2]; exact ⟨v1, v2, v3⟩
  rw [if_neg g2]
  by_cases g3 : N.1 = 24
  · rw [if_pos g3]; exact ⟨v1, v2, v3⟩
  rw [if_neg g3]
  obtain ⟨m, hm, rfl⟩ := nI_of (x := y) (fun h => g (Or.inl h))
  have hm8 : m ≤ 8 := by
    apply Classical.byContradiction
    intro h
    exact g (Or.inr (nI_lt (a := 8) (by omega) hm))
  refine ⟨by show N.1 + 1 ≤ 24; omega, ?_, fun j hj => ?_⟩
  · rcases v2 with h | ⟨k, hk, e⟩
    · exact Or.inl h
    · exact Or.inr ⟨k, by show k ≤ N.1 + 1; omega, e⟩
  · replace hj : j < N.1 + 1 := hj
    simp only [ax_up_ap, ax_ur_ap, Nat.left_eq_add, Nat.add_eq_left, Nat.add_left_cancel_iff, Nat.add_right_cancel_iff, Nat.reduceEqDiff, if_true, if_false, ite_true, ite_false]
    by_cases e : j = N.1
    · simp only [e, if_true]; exact Or.inl ⟨trivial, ⟨h, hh, rfl⟩, ⟨m, hm8, rfl⟩, hz⟩
    · simp only [e, if_false]; exact v3 j (by omega)
theorem vN_out {F : sF} {N : sN} {x : Int32} (hv : vN F N) : vN F (u_out N x).2 := by
  obtain ⟨v1, v2, v3⟩ := hv
  unfold u_out
  rcases ix_c x N.1 (by omega) with e | ⟨h, hh, e, rfl⟩
  · rw [e]; exact ⟨v1, v2, v3⟩
  rw [e]
  show vN F (if N.1 = 24 then (-1, N) else _).2
  by_cases g3 : N.1 = 24
  · rw [if_pos g3]; exact ⟨v1, v2, v3⟩
  rw [if_neg g3]
  refine ⟨by show N.1 + 1 ≤ 24; omega, ?_, fun j hj => ?_⟩
  · rcases v2 with h | ⟨k, hk, e⟩
    · exact Or.inl h
    · exact Or.inr ⟨k, by show k ≤ N.1 + 1; omega, e⟩
  · replace hj : j < N.1 + 1 := hj
    simp only [ax_up_ap, ax_ur_ap, Nat.left_eq_add, Nat.add_eq_left, Nat.add_left_cancel_iff, Nat.add_right_cancel_iff, Nat.reduceEqDiff, if_true, if_false, ite_true, ite_false]
    by_cases e : j = N.1
    · simp only [e, if_true]; exact Or.inr ⟨h, hh, rfl⟩
    · simp only [e, if_false]; exact v3 j (by omega)
theorem vN_known {F : sF} {N : sN} {x : Int32} (hv : vN F N) : vN F (w_known N x).2 := by
  obtain ⟨v1, v2, v3⟩ := hv
  unfold w_known
  by_cases g : x < -1 ∨ ¬ x ≤ nI N.1
  · rw [if_pos g]; exact ⟨v1, v2, v3⟩
  · rw [if_neg g]
    refine ⟨v1, ?_, v3⟩
    show x = -1 ∨ ∃ k, k ≤ N.1 ∧ x = nI k
    by_cases h : x < 0
    · refine Or.inl ?_
      apply Int32.toInt_inj.mp
      have a := Int32.lt_iff_toInt_lt.mp h
      have b : ¬ x.toInt < (-1 : Int32).toInt := fun h => g (Or.inl (Int32.lt_iff_toInt_lt.mpr h))
      have e1 : (-1 : Int32).toInt = -1 := by decide
      have e0 : (0 : Int32).toInt = 0 := by decide
      omega
    · obtain ⟨k, hk, rfl⟩ := nI_of h
      refine Or.inr ⟨k, ?_, rfl⟩
      apply Classical.byContradiction
      intro h
      exact g (Or.inr (nI_ge (by omega) hk))
theorem vR_feed {R : sR} {g : Nat → Int32} (hv : vR R) : vR (u_feed R g).2 := by
  unfold u_feed
  split
  · rename_i h
    refine ⟨by show R.1 + 20 ≤ 700; omega, fun k hk => ?_⟩
    show ∃ m, m < 256 ∧ fdm_ R.2.1 R.1 g 20 k = nI m
    unfold fdm_
    split
    · exact ⟨_, Nat.mod_lt _ (by decide), rfl⟩
    · exact hv.2 k hk
  · exact hv
theorem vi_text {σ : sG} {x : Int32} (hv : vi_ σ) : vi_ (w_text σ x).2 := by
  unfold w_text
  split
  · exact hv
  · unfold w_tx
    split
    · rename_i h1 h
      have hq := tx_vq (n := x.toNatClampNeg) (x.toNatClampNeg + 1) q00 vq_00 h
      generalize tx_ (bn_ σ.2.2.2.2.2.1) x.toNatClampNeg (x.toNatClampNeg + 1) q00 = r at *
      have hF := vF_fq hq
      exact ⟨hF, ⟨hF.1, by show 0 ≤ 20; omega, fun k hk => absurd hk (Nat.not_lt_zero k)⟩, (fun h => absurd (show false = true from h) (by decide)), ⟨by show 0 ≤ 24; omega, Or.inl rfl, fun j hj => absurd hj (Nat.not_lt_zero j)⟩, by show 0 ≤ 700; omega, hv.2.2.2.2.2⟩
    · exact ⟨hv.1, hv.2.1, hv.2.2.1, hv.2.2.2.1, by show 0 ≤ 700; omega, hv.2.2.2.2.2⟩
