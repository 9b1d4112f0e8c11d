/-! what a line leaves holds -/
def T00 : Nat → Nat → Int32 := fun f _ => if f = 16 then 2 else 0
def vl_ (s : pS) (w : (Nat → Bool) × (Nat → Nat) × (Nat → Nat)) : Prop := ∀ r, r < 3 → w.1 r = true → w.2.1 r ≤ w.2.2 r ∧ w.2.2 r ≤ s.2.2.1 ∧ (∀ k, w.2.1 r ≤ k → k < w.2.2 r → sp_kwf (s.2.2.2 k)) ∧ sp_dps s.2.2.2 (w.2.2 r - w.2.1 r) (w.2.1 r) 0 = some 1
def vq_ (n : Nat) (q : qS) : Prop := vb_ q ∧ wf_ q.2.2.1 q.2.1.1 q.2.1.2.1 q.2.1.2.2.1 q.2.1.2.2.2 ∧ fc_ q.2.2.1 q.2.1.2.1 q.2.1.2.2.1 ∧ (q.2.2.1 7 0 = 0 ∧ q.2.2.1 17 0 = 0 ∧ ∀ h, h < 7 → q.2.2.1 2 h = 0) ∧ vl_ q.1 q.2.2.2.2.2.1 ∧ q.1.1 ≤ n
theorem tk1_ge {b : Nat → Nat} {n p : Nat} : p ≤ (tk1 b n p).2.1 ∧ (¬ (tk1 b n p).2.2.1 = 0 → p < (tk1 b n p).2.1 ∧ p < n) := by
  have h1 := (sc_le (p := fun k => lt_ (b k)) (n - p) p).1
  have h2 := (sc_le (p := fun k => dg_ (b k)) (n - p) p).1
  unfold tk1
  by_cases c1 : n ≤ p
  · rw [if_pos c1]; exact ⟨Nat.le_refl _, fun h => absurd rfl h⟩
  rw [if_neg c1]
  by_cases c2 : lt_ (b p) = true
  · have h3 : p < sc_ (fun k => lt_ (b k)) (n - p) p := by
      obtain ⟨m, hm⟩ : ∃ m, n - p = m + 1 := ⟨n - p - 1, by omega⟩
      rw [hm]
      show p < (if lt_ (b p) = true then sc_ (fun k => lt_ (b k)) m (p + 1) else p)
      rw [if_pos c2]
      have := (sc_le (p := fun k => lt_ (b k)) m (p + 1)).1
      omega
    rw [if_pos c2]
    by_cases c3 : 6 < sc_ (fun k => lt_ (b k)) (n - p) p - p
    · rw [if_pos c3]; exact ⟨h1, fun _ => ⟨h3, by omega⟩⟩
    · rw [if_neg c3]; exact ⟨h1, fun _ => ⟨h3, by omega⟩⟩
  rw [if_neg c2]
  by_cases c3 : dg_ (b p) = true
  · have h3 : p < sc_ (fun k => dg_ (b k)) (n - p) p := by
      obtain ⟨m, hm⟩ : ∃ m, n - p = m + 1 := ⟨n - p - 1, by omega⟩
      rw [hm]
      show p < (if dg_ (b p) = true then sc_ (fun k => dg_ (b k)) m (p + 1) else p)
      rw [if_pos c3]
      have := (sc_le (p := fun k => dg_ (b k)) m (p + 1)).1
      omega
    rw [if_pos c3]; exact ⟨h2, fun _ => ⟨h3, by omega⟩⟩
  rw [if_neg c3]
  (repeat' split) <;> (refine ⟨?_, fun _ => ⟨?_, by omega⟩⟩ <;> dsimp only <;> omega)
theorem tk_ge {b : Nat → Nat} {n q : Nat} : q ≤ (tk_s b n q).1 ∧ (tk_s b n q).1 ≤ (tk_s b n q).2.1 ∧ (¬ (tk_s b n q).2.2.1 = 0 → (tk_s b n q).1 < (tk_s b n q).2.1 ∧ (tk_s b n q).1 < n) := by
  have h1 := (sc_le (p := fun k => wh_ (b k)) (n - q) q).1
  unfold tk_s
  generalize sc_ (fun k => wh_ (b k)) (n - q) q = p at *
  have h2 := tk1_ge (b := b) (n := n) (p := p)
  have h3 : (tk1 b n p).1 = p := by
    unfold tk1
    (repeat' split) <;> rfl
  rw [h3]
  exact ⟨h1, h2.1, h2.2⟩
theorem pn_ge {b : Nat → Nat} {n : Nat} {s : pS} : s.1 ≤ (pn_ b n s).1 := by
  have := tk_ge (b := b) (n := n) (q := s.1)
  show s.1 ≤ (tk_s b n s.1).2.1
  omega
theorem pn_le {b : Nat → Nat} {n : Nat} {s : pS} (h : s.1 ≤ n) : (pn_ b n s).1 ≤ n := (tk_le h).1
theorem pb_ge {r : pR} {g : pS → pR} {x : Nat} (h1 : r.1 = 0 → x ≤ r.2.2.1) (h2 : ∀ s : pS, (g s).1 = 0 → s.1 ≤ (g s).2.2.1) (h : (pb_ r g).1 = 0) : x ≤ (pb_ r g).2.2.1 := by
  by_cases e : r.1 = 0
  · rw [pb_0 e] at h ⊢
    exact Nat.le_trans (h1 e) (h2 _ h)
  · rw [pb_n e] at h; exact absurd h e
theorem pk_ge {b : Nat → Nat} {n : Nat} {s : pS} (h : (pk_t b n s).1 = 0) : s.1 ≤ (pk_t b n s).2.2.1 := by
  unfold pk_t at h ⊢
  by_cases e : 64 ≤ s.2.1
  · rw [if_pos e] at h; exact nomatch h
  · rw [if_neg e]; exact pn_ge (b := b) (n := n) (s := s)
theorem px_ge {b : Nat → Nat} {n : Nat} : ∀ (f t o : Nat) (s : pS), (px_ b n f t o s).1 = 0 → s.1 ≤ (px_ b n f t o s).2.2.1
  | 0, t, o, s, h => nomatch h
  | f + 1, t, o, s, h => by
    have ih := px_ge (b := b) (n := n) f
    match t with
    | 0 => exact pb_ge (fun e => ih 2 o s e) (fun s e => ih 1 o s e) h
    | 1 =>
      have e0 : px_ b n (f + 1) 1 o s = if pt_ b n s = 30 then pb_ (pk_t b n s) fun s => pb_ (px_ b n f 2 o s) fun s => px_ b n f 1 o (pa_ 30030 s) else po_ s := rfl
      rw [e0] at h ⊢
      by_cases e : pt_ b n s = 30
      · rw [if_pos e] at h ⊢
        exact pb_ge pk_ge (fun s => pb_ge (fun e => ih 2 o s e) (fun s e => ih 1 o _ e)) h
      · rw [if_neg e]; exact Nat.le_refl _
    | 2 => exact pb_ge (fun e => ih 4 o s e) (fun s e => ih 3 o s e) h
    | 3 =>
      have e0 : px_ b n (f + 1) 3 o s = if pt_ b n s = 31 then pb_ (pk_t b n s) fun s => pb_ (px_ b n f 4 o s) fun s => px_ b n f 3 o (pa_ 30031 s) else po_ s := rfl
      rw [e0] at h ⊢
      by_cases e : pt_ b n s = 31
      · rw [if_pos e] at h ⊢
        exact pb_ge pk_ge (fun s => pb_ge (fun e => ih 4 o s e) (fun s e => ih 3 o _ e)) h
      · rw [if_neg e]; exact Nat.le_refl _
    | 4 =>
      have e0 : px_ b n (f + 1) 4 o s = if pt_ b n s = 32 then pb_ (pk_t b n s) fun s => pb_ (px_ b n f 4 o s) fun s => po_ (pa_ 30032 s) else px_ b n f 5 o s := rfl
      rw [e0] at h ⊢
      by_cases e : pt_ b n s = 32
      · rw [if_pos e] at h ⊢
        exact pb_ge pk_ge (fun s => pb_ge (fun e => ih 4 o s e) (fun s e => Nat.le_refl _)) h
      · rw [if_neg e] at h ⊢; exact ih 5 o s h
    | 5 =>
      refine pb_ge (fun e => ih 6 o s e) (fun s e => ?_) h
      by_cases c : 11 ≤ pt_ b n s ∧ pt_ b n s ≤ 16
      · rw [if_pos c] at e ⊢
        exact pb_ge pk_ge (fun s => pb_ge (fun e => ih 6 o s e) (fun s e => Nat.le_refl _)) e
      · rw [if_neg c]; exact Nat.le_refl _
    | 6 => exact pb_ge (fun e => ih 8 o s e) (fun s e => ih 7 o s e) h
    | 7 =>
      have e0 : px_ b n (f + 1) 7 o s = if pt_ b n s = 7 ∨ pt_ b n s = 8 then pb_ (pk_t b n s) fun s1 => pb_ (px_ b n f 8 o s1) fun s2 => px_ b n f 7 o (pa_ (30000 + pt_ b n s) s2) else po_ s := rfl
      rw [e0] at h ⊢
      by_cases e : pt_ b n s = 7 ∨ pt_ b n s = 8
      · rw [if_pos e] at h ⊢
        exact pb_ge pk_ge (fun s => pb_ge (fun e => ih 8 o s e) (fun s e => ih 7 o _ e)) h
      · rw [if_neg e]; exact Nat.le_refl _
    | 8 => exact pb_ge (fun e => ih 10 o s e) (fun s e => ih 9 o s e) h
    | 9 =>
      have e0 : px_ b n (f + 1) 9 o s = if pt_ b n s = 9 ∨ pt_ b n s = 10 then pb_ (pk_t b n s) fun s1 => pb_ (px_ b n f 10 o s1) fun s2 => px_ b n f 9 o (pa_ (30000 + pt_ b n s) s2) else po_ s := rfl
      rw [e0] at h ⊢
      by_cases e : pt_ b n s = 9 ∨ pt_ b n s = 10
      · rw [if_pos e] at h ⊢
        exact pb_ge pk_ge (fun s => pb_ge (fun e => ih 10 o s e) (fun s e => ih 9 o _ e)) h
      · rw [if_neg e]; exact Nat.le_refl _
    | t + 10 =>
      have e0 : px_ b n (f + 1) (t + 10) o s = if pt_ b n s = 5 then (if o < 8 then pb_ (px_ b n f 0 (o + 1) (pn_ b n s)) fun s1 => if pt_ b n s1 = 6 then po_ (pn_ b n s1) else pf_ b n 1 s1 else pf_ b n 2 s)
        else if 20 ≤ pt_ b n s ∧ pt_ b n s ≤ 26 then pb_ (pk_t b n s) fun s1 => po_ (pa_ (20000 + (pt_ b n s - 20)) s1)
        else if ¬ pt_ b n s = 3 then pf_ b n 1 s else if 9999 < pv_ b n s then pf_ b n 2 s else pb_ (pk_t b n s) fun s1 => po_ (pa_ (pv_ b n s) s1) := rfl
      rw [e0] at h ⊢
      by_cases c1 : pt_ b n s = 5
      · rw [if_pos c1] at h ⊢
        by_cases c2 : o < 8
        · rw [if_pos c2] at h ⊢
          refine pb_ge (fun e => Nat.le_trans pn_ge (ih 0 (o + 1) _ e)) (fun s1 e => ?_) h
          by_cases c3 : pt_ b n s1 = 6
          · rw [if_pos c3]; exact pn_ge
          · rw [if_neg c3] at e; exact nomatch e
        · rw [if_neg c2] at h; exact nomatch h
      rw [if_neg c1] at h ⊢
      by_cases c2 : 20 ≤ pt_ b n s ∧ pt_ b n s ≤ 26
      · rw [if_pos c2] at h ⊢
        exact pb_ge pk_ge (fun s e => Nat.le_refl _) h
      rw [if_neg c2] at h ⊢
      by_cases c3 : ¬ pt_ b n s = 3
      · rw [if_pos c3] at h; exact nomatch h
      rw [if_neg c3] at h ⊢
      by_cases c4 : 9999 < pv_ b n s
      · rw [if_pos c4] at h; exact nomatch h
      rw [if_neg c4] at h ⊢
      exact pb_ge pk_ge (fun s e => Nat.le_refl _) h
theorem lk_ok {r : pR} {q q' : qS} (h : (lk_ r q q').1 = 0) : r.1 = 0 ∧ (lk_ r q q').2.2 = q' := by
  by_cases e : r.1 = 0
  · exact ⟨e, by rw [lk_0 e]⟩
  · rw [lk_n e] at h; exact absurd h e
theorem pb_ok {r : pR} {g : pS → pR} (h : (pb_ r g).1 = 0) : r.1 = 0 ∧ (g r.2.2).1 = 0 := by
  by_cases e : r.1 = 0
  · rw [pb_0 e] at h; exact ⟨e, h⟩
  · rw [pb_n e] at h; exact absurd h e
theorem vl_of {s s' : pS} {w : (Nat → Bool) × (Nat → Nat) × (Nat → Nat)} (h : vl_ s w) (e : s'.2 = s.2) : vl_ s' w := by
  unfold vl_ at h ⊢
  rw [e]
  exact h
theorem vq_house {b : Nat → Nat} {n : Nat} {q : qS} (hv : vq_ n q) (h : (ln_house b n q).1 = 0) : vq_ n (ln_house b n q).2.2 ∧ (pn_ b n q.1).1 ≤ (ln_house b n q).2.2.1.1 := by
  obtain ⟨s, ⟨H, Pn, C, D⟩, T, nm, fl, w, ln⟩ := q
  obtain ⟨⟨a1, a2, a3, a4, a5, a6⟩, ⟨-, b2, b3, b4⟩, d3, d4, d5, d6⟩ := hv
  unfold ln_house at h ⊢
  obtain ⟨e1, e2⟩ := lk_ok h
  rw [e2]
  obtain ⟨e3, -⟩ := pb_ok e1
  have o1 := of_decide_eq_false (gB_ok e3).1
  dsimp only at *
  refine ⟨⟨⟨by show H + 1 ≤ 7; omega, a2, a3, a4, a5, a6⟩, ⟨⟨by show H + 1 ≤ 7; omega, a2, by show C ≤ 12; omega, a4⟩, fun p hp => ?_, fun p hp => ?_, fun p hp => ?_⟩, d3, d4, vl_of d5 rfl, pn_le (pn_le d6)⟩, pn_ge⟩
  · obtain ⟨⟨x, x1, x2⟩, y⟩ := b2 p hp
    exact ⟨⟨x, by show x < H + 1; omega, x2⟩, y⟩
  · obtain ⟨⟨x, x1, x2⟩, y⟩ := b3 p hp
    exact ⟨⟨x, by show x < H + 1; omega, x2⟩, y⟩
  · obtain ⟨x, x1, x2⟩ := b4 p hp
    exact ⟨x, by show x < H + 1; omega, x2⟩
theorem vq_person {b : Nat → Nat} {n : Nat} {q : qS} (hv : vq_ n q) (h : (ln_person b n q).1 = 0) : vq_ n (ln_person b n q).2.2 ∧ (pn_ b n q.1).1 ≤ (ln_person b n q).2.2.1.1 := by
  obtain ⟨s, ⟨H, Pn, C, D⟩, T, nm, fl, w, ln⟩ := q
  obtain ⟨⟨a1, a2, a3, a4, a5, a6⟩, ⟨-, b2, b3, b4⟩, ⟨c1, c2, c3⟩, ⟨d1, d2, d3⟩, d5, d6⟩ := hv
  unfold ln_person at h ⊢
  obtain ⟨e1, e2⟩ := lk_ok h
  rw [e2]
  obtain ⟨e3, e4⟩ := pb_ok e1
  obtain ⟨o1, o2⟩ := gB_ok e3
  have o1 := of_decide_eq_false o1
  rw [o2] at e4
  obtain ⟨e5, e6⟩ := pb_ok e4
  rw [gN_ok e5] at e6
  obtain ⟨-, g1, g2, g3, g4⟩ := gS_ok a1 e6
  have g1 : hv_ b n (nm 0) H (pn_ b n (pn_ b n s)) < H := g1
  have g2 : pv_ b n (pn_ b n (pn_ b n (pn_ b n s))) ≤ 7 := g2
  have g4 : pv_ b n (pn_ b n (pn_ b n (pn_ b n (pn_ b n s)))) ≤ 9 := g4
  dsimp only at *
  refine ⟨⟨⟨a1, by show Pn + 1 ≤ 9; omega, a3, a4, a5, a6⟩, ⟨⟨a1, by show Pn + 1 ≤ 9; omega, by show C ≤ 12; omega, a4⟩, fun p hp => ?_, b3, b4⟩, ⟨fun p hp => ?_, c2, c3⟩, ⟨d1, d2, d3⟩, vl_of d5 rfl, pn_le (pn_le (pn_le (pn_le (pn_le d6))))⟩, Nat.le_trans pn_ge (Nat.le_trans pn_ge (Nat.le_trans pn_ge pn_ge))⟩
  · replace hp : p < Pn + 1 := hp
    simp only [ax_up_ap, ax_ur_ap, Nat.left_eq_add, Nat.add_eq_left, Nat.add_left_cancel_iff, Nat.add_right_cancel_iff, Nat.reduceEqDiff, if_true, if_false, ite_true, ite_false]
    by_cases e : p = Pn
    · simp only [e, if_true]; exact ⟨⟨_, g1, rfl⟩, _, by omega, rfl⟩
    · simp only [e, if_false]; exact b2 p (by omega)
  · replace hp : p < Pn + 1 := hp
    simp only [ax_up_ap, ax_ur_ap, Nat.left_eq_add, Nat.add_eq_left, Nat.add_left_cancel_iff, Nat.add_right_cancel_iff, Nat.reduceEqDiff, if_true, if_false, ite_true, ite_false]
    by_cases e : p = Pn
    · simp only [e, if_true]; exact ⟨_, g4, rfl⟩
    · simp only [e, if_false]; exact c1 p (by omega)
theorem vq_coat {b : Nat → Nat} {n : Nat} {q : qS} (hv : vq_ n q) (h : (ln_coat b n q).1 = 0) : vq_ n (ln_coat b n q).2.2 ∧ (pn_ b n q.1).1 ≤ (ln_coat b n q).2.2.1.1 := by
  obtain ⟨s, ⟨H, Pn, C, D⟩, T, nm, fl, w, ln⟩ := q
  obtain ⟨⟨a1, a2, a3, a4, a5, a6⟩, ⟨-, b2, b3, b4⟩, ⟨c1, c2, c3⟩, ⟨d1, d2, d3⟩, d5, d6⟩ := hv
  unfold ln_coat at h ⊢
  obtain ⟨e1, e2⟩ := lk_ok h
  rw [e2]
  obtain ⟨e3, e4⟩ := pb_ok e1
  obtain ⟨o1, o2⟩ := gB_ok e3
  have o1 := of_decide_eq_false o1
  rw [o2] at e4
  obtain ⟨-, g1, g2, g3, g4⟩ := gS_ok a1 e4
  have g1 : hv_ b n (nm 0) H (pn_ b n s) < H := g1
  have g2 : pv_ b n (pn_ b n (pn_ b n s)) ≤ 7 := g2
  have g4 : pv_ b n (pn_ b n (pn_ b n (pn_ b n s))) ≤ 9 := g4
  dsimp only at *
  refine ⟨⟨⟨a1, a2, by show C + 1 ≤ 8; omega, a4, a5, a6⟩, ⟨⟨a1, a2, by show C + 1 ≤ 12; omega, a4⟩, b2, fun p hp => ?_, b4⟩, ⟨c1, fun p hp => ?_, c3⟩, ⟨d1, d2, d3⟩, vl_of d5 rfl, pn_le (pn_le (pn_le (pn_le d6)))⟩, Nat.le_trans pn_ge (Nat.le_trans pn_ge pn_ge)⟩
  · replace hp : p < C + 1 := hp
    simp only [ax_up_ap, ax_ur_ap, Nat.left_eq_add, Nat.add_eq_left, Nat.add_left_cancel_iff, Nat.add_right_cancel_iff, Nat.reduceEqDiff, if_true, if_false, ite_true, ite_false]
    by_cases e : p = C
    · simp only [e, if_true]; exact ⟨⟨_, g1, rfl⟩, _, by omega, rfl⟩
    · simp only [e, if_false]; exact b3 p (by omega)
  · replace hp : p < C + 1 := hp
    simp only [ax_up_ap, ax_ur_ap, Nat.left_eq_add, Nat.add_eq_left, Nat.add_left_cancel_iff, Nat.add_right_cancel_iff, Nat.reduceEqDiff, if_true, if_false, ite_true, ite_false]
    by_cases e : p = C
    · simp only [e, if_true]; exact ⟨_, g4, rfl⟩
    · simp only [e, if_false]; exact c2 p (by omega)
theorem vq_dog {b : Nat → Nat} {n : Nat} {q : qS} (hv : vq_ n q) (h : (ln_dog b n q).1 = 0) : vq_ n (ln_dog b n q).2.2 ∧ (pn_ b n q.1).1 ≤ (ln_dog b n q).2.2.1.1 := by
  obtain ⟨s, ⟨H, Pn, C, D⟩, T, nm, fl, w, ln⟩ := q
  obtain ⟨⟨a1, a2, a3, a4, a5, a6⟩, ⟨-, b2, b3, b4⟩, ⟨c1, c2, c3⟩, ⟨d1, d2, d3⟩, d5, d6⟩ := hv
  unfold ln_dog at h ⊢
  obtain ⟨e1, e2⟩ := lk_ok h
  rw [e2]
  obtain ⟨e3, e4⟩ := pb_ok e1
  obtain ⟨o1, o2⟩ := gB_ok e3
  have o1 := of_decide_eq_false o1
  rw [o2] at e4
  obtain ⟨e5, e6⟩ := pb_ok e4
  rw [gN_ok e5] at e6
  obtain ⟨e7, e8⟩ := pb_ok e6
  obtain ⟨-, g1⟩ := gH_ok a1 e7
  have g1 : hv_ b n (nm 0) H (pn_ b n (pn_ b n s)) < H := g1
  dsimp only at *
  refine ⟨⟨⟨a1, a2, a3, by show D + 1 ≤ 3; omega, a5, a6⟩, ⟨⟨a1, a2, by show C ≤ 12; omega, by show D + 1 ≤ 3; omega⟩, b2, b3, fun p hp => ?_⟩, ⟨c1, c2, c3⟩, ⟨d1, d2, d3⟩, vl_of d5 rfl, pn_le (pn_le (pn_le (pn_le d6)))⟩, Nat.le_trans pn_ge (Nat.le_trans pn_ge pn_ge)⟩
  replace hp : p < D + 1 := hp
  simp only [ax_up_ap, ax_ur_ap, Nat.left_eq_add, Nat.add_eq_left, Nat.add_left_cancel_iff, Nat.add_right_cancel_iff, Nat.reduceEqDiff, if_true, if_false, ite_true, ite_false]
  by_cases e : p = D
  · simp only [e, if_true]; exact ⟨_, g1, rfl⟩
  · simp only [e, if_false]; exact b4 p (by omega)
theorem vq_dish {b : Nat → Nat} {n : Nat} {q : qS} (hv : vq_ n q) (h : (ln_dish b n q).1 = 0) : vq_ n (ln_dish b n q).2.2 ∧ (pn_ b n q.1).1 ≤ (ln_dish b n q).2.2.1.1 := by
  obtain ⟨s, ⟨H, Pn, C, D⟩, T, nm, fl, w, ln⟩ := q
  obtain ⟨⟨a1, a2, a3, a4, a5, a6⟩, ⟨b1, b2, b3, b4⟩, ⟨c1, c2, c3⟩, ⟨d1, d2, d3⟩, d5, d6⟩ := hv
  unfold ln_dish at h ⊢
  obtain ⟨e1, e2⟩ := lk_ok h
  rw [e2]
  dsimp only at *
  exact ⟨⟨⟨a1, a2, a3, a4, a5, a6⟩, ⟨b1, b2, b3, b4⟩, ⟨c1, c2, c3⟩, ⟨d1, d2, d3⟩, vl_of d5 rfl, pn_le (pn_le (pn_le d6))⟩, Nat.le_trans pn_ge pn_ge⟩
theorem vq_num {b : Nat → Nat} {n k : Nat} {q : qS} (hv : vq_ n q) (h : (ln_num b n k q).1 = 0) : vq_ n (ln_num b n k q).2.2 ∧ (pn_ b n q.1).1 ≤ (ln_num b n k q).2.2.1.1 := by
  obtain ⟨s, ⟨H, Pn, C, D⟩, T, nm, fl, w, ln⟩ := q
  obtain ⟨⟨a1, a2, a3, a4, a5, a6⟩, ⟨b1, b2, b3, b4⟩, ⟨c1, c2, c3⟩, ⟨d1, d2, d3⟩, d5, d6⟩ := hv
  unfold ln_num at h ⊢
  obtain ⟨e1, e2⟩ := lk_ok h
  rw [e2]
  dsimp only at *
  by_cases hfl : fl 1 k = true
  · rw [if_pos hfl] at e1; exact nomatch e1
  rw [if_neg hfl] at e1
  obtain ⟨-, -, g2⟩ := gV_ok e1
  by_cases k0 : k = 0
  · simp only [if_pos k0]
    refine ⟨⟨⟨a1, a2, a3, a4, a5, a6⟩, ⟨b1, b2, b3, b4⟩, ⟨c1, c2, ?_⟩, ⟨d1, d2, d3⟩, vl_of d5 rfl, pn_le (pn_le d6)⟩, pn_ge⟩
    refine ⟨pv_ b n (pn_ b n s), ?_, show ax_up T 15 0 (nI (pv_ b n (pn_ b n s))) 15 0 = _ from ax_up_s _ _ _ _⟩
    unfold mx_ at g2
    rw [if_pos k0] at g2
    exact g2
  · simp only [if_neg k0]
    by_cases k1 : k = 1
    · simp only [if_pos k1]
      exact ⟨⟨⟨a1, a2, a3, a4, a5, a6⟩, ⟨b1, b2, b3, b4⟩, ⟨c1, c2, c3⟩, ⟨d1, d2, d3⟩, vl_of d5 rfl, pn_le (pn_le d6)⟩, pn_ge⟩
    · simp only [if_neg k1]
      exact ⟨⟨⟨a1, a2, a3, a4, a5, a6⟩, ⟨b1, b2, b3, b4⟩, ⟨c1, c2, c3⟩, ⟨d1, d2, d3⟩, vl_of d5 rfl, pn_le (pn_le d6)⟩, pn_ge⟩
theorem vq_law {b : Nat → Nat} {n : Nat} {q : qS} (hv : vq_ n q) (h : (ln_law b n q).1 = 0) : vq_ n (ln_law b n q).2.2 ∧ (pn_ b n q.1).1 ≤ (ln_law b n q).2.2.1.1 := by
  obtain ⟨s, ⟨H, Pn, C, D⟩, T, nm, fl, ⟨told, fro, too⟩, ln⟩ := q
  obtain ⟨⟨a1, a2, a3, a4, a5, a6⟩, ⟨b1, b2, b3, b4⟩, ⟨c1, c2, c3⟩, ⟨d1, d2, d3⟩, d5, d6⟩ := hv
  unfold ln_law at h ⊢
  obtain ⟨e1, e2⟩ := lk_ok h
  rw [e2]
  generalize hlr : ln_lr b n (s, (H, Pn, C, D), T, nm, fl, (told, fro, too), ln) = lr at *
  unfold ln_lr at hlr
  dsimp only at *
  by_cases k1 : pt_ b n (pn_ b n s) < 27 ∨ 29 < pt_ b n (pn_ b n s)
  · rw [if_pos k1] at hlr; subst hlr; exact nomatch e1
  rw [if_neg k1] at hlr
  by_cases k2 : told (pt_ b n (pn_ b n s) - 27) = true
  · rw [if_pos k2] at hlr; subst hlr; exact nomatch e1
  rw [if_neg k2] at hlr
  have hn2 : (pn_ b n (pn_ b n s)).1 ≤ n := pn_le (pn_le d6)
  have ok := px_ok (b := b) (n := n) 900 0 0 (pn_ b n (pn_ b n s)) (by omega) a5 hn2 (by omega) (by show (64 - s.2.1) * 12 + (8 - 0) * 12 + 7 ≤ 900; omega)
  have ge := px_ge (b := b) (n := n) 900 0 0 (pn_ b n (pn_ b n s)) (by rw [hlr]; exact e1)
  rw [hlr] at ok ge
  obtain ⟨-, B1, B2, B3, B4, B5, B6, B7, B8⟩ : lr.1 = 0 ∧ Bk n 0 1 0 (pn_ b n (pn_ b n s)) lr.2.2 := by
    rcases ok with h | ⟨h, -⟩
    · exact h
    · omega
  have B3 : s.2.2.1 ≤ lr.2.2.2.2.1 := B3
  have B4 : (lr.2.2.2.2.1 : Int) - s.2.2.1 = (lr.2.2.2.1 : Int) - s.2.1 - 0 := B4
  have B5 : ∀ k, k < s.2.2.1 → lr.2.2.2.2.2 k = s.2.2.2 k := B5
  have B6 : ∀ k, s.2.2.1 ≤ k → k < lr.2.2.2.2.1 → sp_kwf (lr.2.2.2.2.2 k) := B6
  have B7 : sp_dps lr.2.2.2.2.2 (lr.2.2.2.2.1 - s.2.2.1) s.2.2.1 0 = some 1 := B7 0
  refine ⟨⟨⟨a1, a2, a3, a4, B2, by show lr.2.2.2.2.1 ≤ lr.2.2.2.1; omega⟩, ⟨b1, b2, b3, b4⟩, ⟨c1, c2, c3⟩, ⟨d1, d2, d3⟩, fun r hr ht => ?_, B8⟩, Nat.le_trans pn_ge ge⟩
  replace ht : (if r = pt_ b n (pn_ b n s) - 27 then true else told r) = true := ht
  show (if r = pt_ b n (pn_ b n s) - 27 then s.2.2.1 else fro r) ≤ (if r = pt_ b n (pn_ b n s) - 27 then lr.2.2.2.2.1 else too r) ∧ (if r = pt_ b n (pn_ b n s) - 27 then lr.2.2.2.2.1 else too r) ≤ lr.2.2.2.2.1 ∧ (∀ k, (if r = pt_ b n (pn_ b n s) - 27 then s.2.2.1 else fro r) ≤ k → k < (if r = pt_ b n (pn_ b n s) - 27 then lr.2.2.2.2.1 else too r) → sp_kwf (lr.2.2.2.2.2 k)) ∧ sp_dps lr.2.2.2.2.2 ((if r = pt_ b n (pn_ b n s) - 27 then lr.2.2.2.2.1 else too r) - (if r = pt_ b n (pn_ b n s) - 27 then s.2.2.1 else fro r)) (if r = pt_ b n (pn_ b n s) - 27 then s.2.2.1 else fro r) 0 = some 1
  by_cases e : r = pt_ b n (pn_ b n s) - 27
  · simp only [if_pos e]
    exact ⟨B3, Nat.le_refl _, B6, B7⟩
  · simp only [if_neg e] at ht ⊢
    obtain ⟨x1, x2, x3, x4⟩ := d5 r hr ht
    have x1 : fro r ≤ too r := x1
    have x2 : too r ≤ s.2.2.1 := x2
    refine ⟨x1, by omega, fun k k1 k2 => by rw [B5 k (by omega)]; exact x3 k k1 k2, ?_⟩
    rw [dps_congr (K' := s.2.2.2) _ _ _ (fun j j1 j2 => B5 j (by omega))]
    exact x4
theorem vq_ln {b : Nat → Nat} {n : Nat} {q : qS} (hv : vq_ n q) (h : (ln_ b n q).1 = 0) : vq_ n (ln_ b n q).2.2 ∧ (pn_ b n q.1).1 ≤ (ln_ b n q).2.2.1.1 := by
  unfold ln_ at h ⊢
  by_cases c1 : pt_ b n q.1 = 33
  · rw [if_pos c1] at h ⊢; exact vq_house hv h
  rw [if_neg c1] at h ⊢
  by_cases c2 : pt_ b n q.1 = 34
  · rw [if_pos c2] at h ⊢; exact vq_person hv h
  rw [if_neg c2] at h ⊢
  by_cases c3 : pt_ b n q.1 = 35
  · rw [if_pos c3] at h ⊢; exact vq_coat hv h
  rw [if_neg c3] at h ⊢
  by_cases c4 : pt_ b n q.1 = 23
  · rw [if_pos c4] at h ⊢; exact vq_dish hv h
  rw [if_neg c4] at h ⊢
  by_cases c5 : pt_ b n q.1 = 36
  · rw [if_pos c5] at h ⊢; exact vq_dog hv h
  rw [if_neg c5] at h ⊢
  by_cases c6 : 37 ≤ pt_ b n q.1 ∧ pt_ b n q.1 ≤ 39
  · rw [if_pos c6] at h ⊢; exact vq_num hv h
  rw [if_neg c6] at h ⊢
  by_cases c7 : pt_ b n q.1 = 40
  · rw [if_pos c7] at h ⊢; exact vq_law hv h
  rw [if_neg c7] at h
  exact nomatch h
