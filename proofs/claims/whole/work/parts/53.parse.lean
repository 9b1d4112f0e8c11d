/-! what a text's expressions are read as -/
abbrev pS : Type := Nat × Nat × Nat × (Nat → Nat)
abbrev pR : Type := Nat × Nat × pS
def pb_ (r : pR) (f : pS → pR) : pR := if r.1 = 0 then f r.2.2 else r
def po_ (s : pS) : pR := (0, 0, s)
def pt_ (b : Nat → Nat) (n : Nat) (s : pS) : Nat := (tk_s b n s.1).2.2.1
def pv_ (b : Nat → Nat) (n : Nat) (s : pS) : Nat := (tk_s b n s.1).2.2.2
def pp_ (b : Nat → Nat) (n : Nat) (s : pS) : Nat := (tk_s b n s.1).1
def pn_ (b : Nat → Nat) (n : Nat) (s : pS) : pS := ((tk_s b n s.1).2.1, s.2)
def pf_ (b : Nat → Nat) (n : Nat) (k : Nat) (s : pS) : pR := (k, pp_ b n s, s)
def pk_t (b : Nat → Nat) (n : Nat) (s : pS) : pR := if 64 ≤ s.2.1 then pf_ b n 2 s else po_ ((tk_s b n s.1).2.1, s.2.1 + 1, s.2.2)
def pa_ (c : Nat) (s : pS) : pS := (s.1, s.2.1, s.2.2.1 + 1, fun k => if k = s.2.2.1 then c else s.2.2.2 k)
def px_ (b : Nat → Nat) (n : Nat) : Nat → Nat → Nat → pS → pR
  | 0, _, _, s => (9, 0, s)
  | f + 1, t, o, s => match t with
    | 0 => pb_ (px_ b n f 2 o s) fun s => px_ b n f 1 o s
    | 1 => if pt_ b n s = 30 then pb_ (pk_t b n s) fun s => pb_ (px_ b n f 2 o s) fun s => px_ b n f 1 o (pa_ 30030 s) else po_ s
    | 2 => pb_ (px_ b n f 4 o s) fun s => px_ b n f 3 o s
    | 3 => if pt_ b n s = 31 then pb_ (pk_t b n s) fun s => pb_ (px_ b n f 4 o s) fun s => px_ b n f 3 o (pa_ 30031 s) else po_ s
    | 4 => if pt_ b n s = 32 then pb_ (pk_t b n s) fun s => pb_ (px_ b n f 4 o s) fun s => po_ (pa_ 30032 s) else px_ b n f 5 o s
    | 5 => pb_ (px_ b n f 6 o s) fun s => if 11 ≤ pt_ b n s ∧ pt_ b n s ≤ 16 then pb_ (pk_t b n s) fun s1 => pb_ (px_ b n f 6 o s1) fun s2 => po_ (pa_ (30000 + pt_ b n s) s2) else po_ s
    | 6 => pb_ (px_ b n f 8 o s) fun s => px_ b n f 7 o s
    | 7 => if pt_ b n s = 7 ∨ pt_ b n s = 8 then pb_ (pk_t b n s) fun s1 => pb_ (px_ b n f 8 o s1) fun s2 => px_ b n f 7 o (pa_ (30000 + pt_ b n s) s2) else po_ s
    | 8 => pb_ (px_ b n f 10 o s) fun s => px_ b n f 9 o s
    | 9 => if pt_ b n s = 9 ∨ pt_ b n s = 10 then pb_ (pk_t b n s) fun s1 => pb_ (px_ b n f 10 o s1) fun s2 => px_ b n f 9 o (pa_ (30000 + pt_ b n s) s2) else po_ s
    | _ => if pt_ b n s = 5 then (if o < 8 then pb_ (px_ b n f 0 (o + 1) (pn_ b n s)) fun s1 => if pt_ b n s1 = 6 then po_ (pn_ b n s1) else pf_ b n 1 s1 else pf_ b n 2 s)
        else if 20 ≤ pt_ b n s ∧ pt_ b n s ≤ 26 then pb_ (pk_t b n s) fun s1 => po_ (pa_ (20000 + (pt_ b n s - 20)) s1)
        else if ¬ pt_ b n s = 3 then pf_ b n 1 s else if 9999 < pv_ b n s then pf_ b n 2 s else pb_ (pk_t b n s) fun s1 => po_ (pa_ (pv_ b n s) s1)
def Bk (n : Nat) (x y : Nat) (z : Int) (s s' : pS) : Prop := s.2.1 ≤ s'.2.1 ∧ s'.2.1 ≤ 64 ∧ s.2.2.1 ≤ s'.2.2.1 ∧ (s'.2.2.1 : Int) - s.2.2.1 = (s'.2.1 : Int) - s.2.1 - z ∧ (∀ k, k < s.2.2.1 → s'.2.2.2 k = s.2.2.2 k) ∧ (∀ k, s.2.2.1 ≤ k → k < s'.2.2.1 → sp_kwf (s'.2.2.2 k)) ∧ (∀ m, sp_dps s'.2.2.2 (s'.2.2.1 - s.2.2.1) s.2.2.1 (m + x) = some (m + y)) ∧ s'.1 ≤ n
theorem dps_congr {K K' : Nat → Nat} : ∀ (m k a : Nat), (∀ j, k ≤ j → j < k + m → K j = K' j) → sp_dps K m k a = sp_dps K' m k a
  | 0, _, _, _ => rfl
  | m + 1, k, a, h => by
    show (match sp_dp (K k) a with | none => none | some n' => sp_dps K m (k + 1) n') = (match sp_dp (K' k) a with | none => none | some n' => sp_dps K' m (k + 1) n')
    rw [h k (by omega) (by omega)]
    cases sp_dp (K' k) a with
    | none => rfl
    | some n' => exact dps_congr m (k + 1) n' (fun j h1 h2 => h j (by omega) (by omega))
theorem dps_app {K : Nat → Nat} : ∀ (m1 m2 k a c : Nat), sp_dps K m1 k a = some c → sp_dps K (m1 + m2) k a = sp_dps K m2 (k + m1) c
  | 0, m2, k, a, c, h => by
    have h : some a = some c := h
    cases h
    simp
  | m1 + 1, m2, k, a, c, h => by
    rw [show m1 + 1 + m2 = (m1 + m2) + 1 by omega]
    show (match sp_dp (K k) a with | none => none | some n' => sp_dps K (m1 + m2) (k + 1) n') = _
    replace h : (match sp_dp (K k) a with | none => none | some n' => sp_dps K m1 (k + 1) n') = some c := h
    cases e : sp_dp (K k) a with
    | none => rw [e] at h; exact nomatch h
    | some n' =>
      rw [e] at h
      show sp_dps K (m1 + m2) (k + 1) n' = _
      rw [dps_app m1 m2 (k + 1) n' c h, show k + 1 + m1 = k + (m1 + 1) by omega]
theorem Bk_tr {n x y w : Nat} {z z' : Int} {s s1 s2 : pS} (h : Bk n x y z s s1) (h' : Bk n y w z' s1 s2) : Bk n x w (z + z') s s2 := by
  obtain ⟨a1, a2, a3, a4, a5, a6, a7, a8⟩ := h
  obtain ⟨b1, b2, b3, b4, b5, b6, b7, b8⟩ := h'
  refine ⟨by omega, b2, by omega, by omega, fun k hk => (b5 k (by omega)).trans (a5 k hk), fun k k1 k2 => ?_, fun m => ?_, b8⟩
  · by_cases e : k < s1.2.2.1
    · rw [b5 k e]; exact a6 k k1 e
    · exact b6 k (by omega) k2
  · rw [show s2.2.2.1 - s.2.2.1 = (s1.2.2.1 - s.2.2.1) + (s2.2.2.1 - s1.2.2.1) by omega]
    have h1 := a7 m
    rw [dps_congr (K' := s2.2.2.2) _ _ _ (fun j j1 j2 => (b5 j (by omega)).symm)] at h1
    rw [dps_app _ _ _ _ _ h1, show s.2.2.1 + (s1.2.2.1 - s.2.2.1) = s1.2.2.1 by omega]
    exact b7 m
theorem Bk_up {n x y : Nat} {z : Int} {s s' : pS} (h : Bk n x y z s s') (a : Nat) : Bk n (x + a) (y + a) z s s' := by
  obtain ⟨a1, a2, a3, a4, a5, a6, a7, a8⟩ := h
  exact ⟨a1, a2, a3, a4, a5, a6, fun m => by have := a7 (m + a); rw [show m + (x + a) = m + a + x by omega, this]; congr 1; omega, a8⟩
theorem Bk_rfl {n x : Nat} {s : pS} (h : s.2.1 ≤ 64) (hn : s.1 ≤ n) : Bk n x x 0 s s :=
  ⟨Nat.le_refl _, h, Nat.le_refl _, by omega, fun _ _ => rfl, fun k k1 k2 => absurd k2 (by omega), fun m => by rw [Nat.sub_self]; rfl, hn⟩
theorem Bk_kt {b : Nat → Nat} {n x : Nat} {s : pS} (hn : s.1 ≤ n) (h : (pk_t b n s).1 = 0) : Bk n x x 1 s (pk_t b n s).2.2 := by
  unfold pk_t at h ⊢
  by_cases e : 64 ≤ s.2.1
  · rw [if_pos e] at h; exact nomatch h
  · rw [if_neg e]
    exact ⟨by show s.2.1 ≤ s.2.1 + 1; omega, by show s.2.1 + 1 ≤ 64; omega, Nat.le_refl _, by show (s.2.2.1 : Int) - s.2.2.1 = ((s.2.1 + 1 : Nat) : Int) - s.2.1 - 1; omega, fun _ _ => rfl, fun k k1 k2 => absurd k2 (Nat.not_lt.mpr k1), fun m => by show sp_dps s.2.2.2 (s.2.2.1 - s.2.2.1) _ _ = _; rw [Nat.sub_self]; rfl, (tk_le hn).1⟩
theorem Bk_ad {n x y c : Nat} {s : pS} (hk : sp_kwf c) (hd : ∀ m, sp_dp c (m + x) = some (m + y)) (h : s.2.1 ≤ 64) (hn : s.1 ≤ n) : Bk n x y (-1) s (pa_ c s) := by
  refine ⟨Nat.le_refl _, h, by show s.2.2.1 ≤ s.2.2.1 + 1; omega, by show ((s.2.2.1 + 1 : Nat) : Int) - s.2.2.1 = (s.2.1 : Int) - s.2.1 - -1; omega, fun k k1 => ?_, fun k k1 k2 => ?_, fun m => ?_, hn⟩
  · show (if k = s.2.2.1 then c else s.2.2.2 k) = _
    rw [if_neg (by omega)]
  · replace k2 : k < s.2.2.1 + 1 := k2
    show sp_kwf (if k = s.2.2.1 then c else s.2.2.2 k)
    rw [if_pos (by omega)]
    exact hk
  · show sp_dps (fun k => if k = s.2.2.1 then c else s.2.2.2 k) (s.2.2.1 + 1 - s.2.2.1) s.2.2.1 (m + x) = _
    rw [show s.2.2.1 + 1 - s.2.2.1 = 1 by omega]
    show (match sp_dp (if s.2.2.1 = s.2.2.1 then c else s.2.2.2 s.2.2.1) (m + x) with | none => none | some n' => sp_dps _ 0 _ n') = _
    rw [if_pos rfl, hd m]
    rfl
def px_r (t : Nat) : Nat := match t with
  | 0 => 7
  | 2 => 6
  | 4 => 5
  | 5 => 4
  | 6 => 3
  | 8 => 2
  | _ => 1
def px_l (t : Nat) : Nat := match t with
  | 1 => 1
  | 3 => 1
  | 7 => 1
  | 9 => 1
  | _ => 0
/-- a result that stands: not without an end, and if it is one, a block -/
def px_g (n : Nat) (x : Nat) (s : pS) (r : pR) : Prop := (r.1 = 0 ∧ Bk n x 1 0 s r.2.2) ∨ ((r.1 = 1 ∨ r.1 = 2) ∧ r.2.1 ≤ n)
theorem kwf_b {t : Nat} (h : t ∈ [7, 8, 9, 10, 11, 12, 13, 14, 15, 16, 30, 31]) : sp_kwf (30000 + t) ∧ ∀ m, sp_dp (30000 + t) (m + 2) = some (m + 1) := by
  have h2 : t < 32 := by simp at h; omega
  refine ⟨Or.inr (Or.inr (Or.inr ⟨by omega, by rw [show 30000 + t - 30000 = t by omega]; exact h⟩)), fun m => ?_⟩
  unfold sp_dp
  rw [if_neg (by omega), if_neg (by omega), if_neg (by omega)]
  congr 1
theorem pb_0 {r : pR} {f : pS → pR} (h : r.1 = 0) : pb_ r f = f r.2.2 := if_pos h
theorem pb_n {r : pR} {f : pS → pR} (h : ¬ r.1 = 0) : pb_ r f = r := if_neg h
theorem pk_c {b : Nat → Nat} {n : Nat} {s : pS} (hn : s.1 ≤ n) : (pk_t b n s).1 = 0 ∨ ((pk_t b n s).1 = 2 ∧ (pk_t b n s).2.1 ≤ n) := by
  unfold pk_t
  by_cases e : 64 ≤ s.2.1
  · rw [if_pos e]; exact Or.inr ⟨rfl, (tk_le hn).2⟩
  · rw [if_neg e]; exact Or.inl rfl
/-- a sign, an operand behind it, and on -/
theorem px_lp {b : Nat → Nat} {n t : Nat} {s : pS} {g h : pS → pR} (ht : t ∈ [7, 8, 9, 10, 11, 12, 13, 14, 15, 16, 30, 31]) (hs : s.2.1 ≤ 64) (hn : s.1 ≤ n)
    (h1 : ∀ s1 : pS, s1.2.1 ≤ 64 → s1.1 ≤ n → s.2.1 < s1.2.1 → px_g n 0 s1 (g s1)) (h2 : ∀ s1 : pS, s1.2.1 ≤ 64 → s1.1 ≤ n → s.2.1 + 1 < s1.2.1 → px_g n 1 s1 (h s1)) :
    px_g n 1 s (pb_ (pk_t b n s) fun s1 => pb_ (g s1) fun s2 => h (pa_ (30000 + t) s2)) := by
  rcases pk_c (b := b) hn with e | ⟨e, e2⟩
  · have k1 := Bk_kt (x := 1) hn e
    have k1' : s.2.1 < (pk_t b n s).2.2.2.1 := by
      unfold pk_t at e ⊢
      by_cases c : 64 ≤ s.2.1
      · rw [if_pos c] at e; exact nomatch e
      · rw [if_neg c]; show s.2.1 < s.2.1 + 1; omega
    rw [pb_0 e]
    rcases h1 _ k1.2.1 k1.2.2.2.2.2.2.2 k1' with ⟨e3, k2⟩ | ⟨e3, e4⟩
    · rw [pb_0 e3]
      have k2' := Bk_up k2 1
      have k3 := Bk_ad (n := n) (kwf_b ht).1 (kwf_b ht).2 k2.2.1 k2.2.2.2.2.2.2.2
      have k4 := Bk_tr (Bk_tr k1 k2') k3
      have hgt : (pk_t b n s).2.2.2.1 < (g (pk_t b n s).2.2).2.2.2.1 := by
        obtain ⟨a1, a2, a3, a4, -, -, a7, -⟩ := k2
        apply Classical.byContradiction
        intro hc
        have hz : (g (pk_t b n s).2.2).2.2.2.2.1 - (pk_t b n s).2.2.2.2.1 = 0 := by omega
        have := a7 0
        rw [hz] at this
        exact nomatch this
      rcases h2 (pa_ (30000 + t) (g (pk_t b n s).2.2).2.2) k4.2.1 k4.2.2.2.2.2.2.2 (by show s.2.1 + 1 < (g (pk_t b n s).2.2).2.2.2.1; omega) with ⟨e5, k5⟩ | h5
      · refine Or.inl ⟨e5, ?_⟩
        have k6 := Bk_tr k4 k5
        exact k6
      · exact Or.inr h5
    · rw [pb_n (by omega)]
      exact Or.inr ⟨e3, e4⟩
  · rw [pb_n (by omega)]
    exact Or.inr ⟨Or.inr e, e2⟩
theorem px_sq {n : Nat} {s : pS} {r : pR} {h : pS → pR} (h1 : px_g n 0 s r) (h2 : ∀ s1 : pS, s1.2.1 ≤ 64 → s1.1 ≤ n → s.2.1 < s1.2.1 → px_g n 1 s1 (h s1)) : px_g n 0 s (pb_ r h) := by
  rcases h1 with ⟨e, k⟩ | ⟨e1, e2⟩
  · rw [pb_0 e]
    have hgt : s.2.1 < r.2.2.2.1 := by
      obtain ⟨a1, a2, a3, a4, -, -, a7, -⟩ := k
      apply Classical.byContradiction
      intro hc
      have hz : r.2.2.2.2.1 - s.2.2.1 = 0 := by omega
      have := a7 0
      rw [hz] at this
      exact nomatch this
    rcases h2 r.2.2 k.2.1 k.2.2.2.2.2.2.2 hgt with ⟨e3, k3⟩ | h3
    · exact Or.inl ⟨e3, Bk_tr k k3⟩
    · exact Or.inr h3
  · rw [pb_n (by omega)]
    exact Or.inr ⟨e1, e2⟩
theorem px_op {b : Nat → Nat} {n c : Nat} {s : pS} (hn : s.1 ≤ n) (hk : sp_kwf c) (hd : ∀ m, sp_dp c (m + 0) = some (m + 1)) : px_g n 0 s (pb_ (pk_t b n s) fun s1 => po_ (pa_ c s1)) := by
  rcases pk_c (b := b) hn with e | ⟨e, e2⟩
  · have k1 := Bk_kt (x := 0) hn e
    rw [pb_0 e]
    have k3 := Bk_ad (n := n) hk hd k1.2.1 k1.2.2.2.2.2.2.2
    exact Or.inl ⟨rfl, Bk_tr k1 k3⟩
  · rw [pb_n (by omega)]
    exact Or.inr ⟨Or.inr e, e2⟩
theorem px_ok {b : Nat → Nat} {n : Nat} : ∀ (f t o : Nat) (s : pS), t ≤ 10 → s.2.1 ≤ 64 → s.1 ≤ n → o ≤ 8 → (64 - s.2.1) * 12 + (8 - o) * 12 + px_r t ≤ f → px_g n (px_l t) s (px_ b n f t o s)
  | 0, t, o, s, ht, hs, hn, ho, hf => by
    have : 1 ≤ px_r t := by unfold px_r; split <;> omega
    omega
  | f + 1, t, o, s, ht, hs, hn, ho, hf => by
    have hlp : ∀ s : pS, s.2.1 ≤ 64 → s.1 ≤ n → px_g n 1 s (po_ s) := fun s h1 h2 => Or.inl ⟨rfl, Bk_rfl h1 h2⟩
    rcases (show t = 0 ∨ t = 1 ∨ t = 2 ∨ t = 3 ∨ t = 4 ∨ t = 5 ∨ t = 6 ∨ t = 7 ∨ t = 8 ∨ t = 9 ∨ t = 10 by omega) with rfl | rfl | rfl | rfl | rfl | rfl | rfl | rfl | rfl | rfl | rfl <;> simp only [px_r] at hf
    · exact px_sq (px_ok f 2 o s (by omega) hs hn ho (by simp only [px_r]; omega)) (fun s1 h1 h2 h3 => px_ok f 1 o s1 (by omega) h1 h2 ho (by simp only [px_r]; omega))
    · show px_g n 1 s (if pt_ b n s = 30 then _ else po_ s)
      by_cases e : pt_ b n s = 30
      · rw [if_pos e]
        exact px_lp (t := 30) (by decide) hs hn (fun s1 h1 h2 h3 => px_ok f 2 o s1 (by omega) h1 h2 ho (by simp only [px_r]; omega)) (fun s1 h1 h2 h3 => px_ok f 1 o s1 (by omega) h1 h2 ho (by simp only [px_r]; omega))
      · rw [if_neg e]; exact hlp s hs hn
    · exact px_sq (px_ok f 4 o s (by omega) hs hn ho (by simp only [px_r]; omega)) (fun s1 h1 h2 h3 => px_ok f 3 o s1 (by omega) h1 h2 ho (by simp only [px_r]; omega))
    · show px_g n 1 s (if pt_ b n s = 31 then _ else po_ s)
      by_cases e : pt_ b n s = 31
      · rw [if_pos e]
        exact px_lp (t := 31) (by decide) hs hn (fun s1 h1 h2 h3 => px_ok f 4 o s1 (by omega) h1 h2 ho (by simp only [px_r]; omega)) (fun s1 h1 h2 h3 => px_ok f 3 o s1 (by omega) h1 h2 ho (by simp only [px_r]; omega))
      · rw [if_neg e]; exact hlp s hs hn
    · show px_g n 0 s (if pt_ b n s = 32 then _ else px_ b n f 5 o s)
      by_cases e : pt_ b n s = 32
      · rw [if_pos e]
        rcases pk_c (b := b) hn with e1 | ⟨e1, e2⟩
        · have k1 := Bk_kt (x := 0) hn e1
          have k1' : s.2.1 < (pk_t b n s).2.2.2.1 := by
            unfold pk_t at e1 ⊢
            by_cases c : 64 ≤ s.2.1
            · rw [if_pos c] at e1; exact nomatch e1
            · rw [if_neg c]; show s.2.1 < s.2.1 + 1; omega
          have k1'' := k1.2.1
          rw [pb_0 e1]
          rcases px_ok f 4 o _ (by omega) k1.2.1 k1.2.2.2.2.2.2.2 ho (by simp only [px_r]; omega) with ⟨e3, k2⟩ | ⟨e3, e4⟩
          · rw [pb_0 e3]
            have k3 := Bk_ad (n := n) (c := 30032) (x := 1) (y := 1) (Or.inr (Or.inr (Or.inl rfl))) (fun m => rfl) k2.2.1 k2.2.2.2.2.2.2.2
            exact Or.inl ⟨rfl, Bk_tr (Bk_tr k1 k2) k3⟩
          · rw [pb_n (by omega)]
            exact Or.inr ⟨e3, e4⟩
        · rw [pb_n (by omega)]
          exact Or.inr ⟨Or.inr e1, e2⟩
      · rw [if_neg e]
        exact px_ok f 5 o s (by omega) hs hn ho (by simp only [px_r]; omega)
    · refine px_sq (px_ok f 6 o s (by omega) hs hn ho (by simp only [px_r]; omega)) (fun s1 h1 h2 h3 => ?_)
      by_cases e : 11 ≤ pt_ b n s1 ∧ pt_ b n s1 ≤ 16
      · rw [if_pos e]
        refine px_lp (h := fun s => po_ s) (t := pt_ b n s1) ?_ h1 h2 (fun s2 g1 g2 g3 => px_ok f 6 o s2 (by omega) g1 g2 ho (by simp only [px_r]; omega)) (fun s2 g1 g2 g3 => hlp s2 g1 g2)
        simp
        omega
      · rw [if_neg e]; exact hlp s1 h1 h2
    · exact px_sq (px_ok f 8 o s (by omega) hs hn ho (by simp only [px_r]; omega)) (fun s1 h1 h2 h3 => px_ok f 7 o s1 (by omega) h1 h2 ho (by simp only [px_r]; omega))
    · show px_g n 1 s (if pt_ b n s = 7 ∨ pt_ b n s = 8 then _ else po_ s)
      by_cases e : pt_ b n s = 7 ∨ pt_ b n s = 8
      · rw [if_pos e]
        refine px_lp (t := pt_ b n s) ?_ hs hn (fun s1 h1 h2 h3 => px_ok f 8 o s1 (by omega) h1 h2 ho (by simp only [px_r]; omega)) (fun s1 h1 h2 h3 => px_ok f 7 o s1 (by omega) h1 h2 ho (by simp only [px_r]; omega))
        simp
        omega
      · rw [if_neg e]; exact hlp s hs hn
    · exact px_sq (px_ok f 10 o s (by omega) hs hn ho (by simp only [px_r]; omega)) (fun s1 h1 h2 h3 => px_ok f 9 o s1 (by omega) h1 h2 ho (by simp only [px_r]; omega))
    · show px_g n 1 s (if pt_ b n s = 9 ∨ pt_ b n s = 10 then _ else po_ s)
      by_cases e : pt_ b n s = 9 ∨ pt_ b n s = 10
      · rw [if_pos e]
        refine px_lp (t := pt_ b n s) ?_ hs hn (fun s1 h1 h2 h3 => px_ok f 10 o s1 (by omega) h1 h2 ho (by simp only [px_r]; omega)) (fun s1 h1 h2 h3 => px_ok f 9 o s1 (by omega) h1 h2 ho (by simp only [px_r]; omega))
        simp
        omega
      · rw [if_neg e]; exact hlp s hs hn
    · show px_g n 0 s (if pt_ b n s = 5 then _ else if 20 ≤ pt_ b n s ∧ pt_ b n s ≤ 26 then _ else if ¬ pt_ b n s = 3 then pf_ b n 1 s else if 9999 < pv_ b n s then pf_ b n 2 s else _)
      by_cases c1 : pt_ b n s = 5
      · rw [if_pos c1]
        by_cases c2 : o < 8
        · rw [if_pos c2]
          have hn1 : (pn_ b n s).1 ≤ n := (tk_le hn).1
          rcases px_ok f 0 (o + 1) (pn_ b n s) (by omega) hs hn1 (by omega) (by show (64 - s.2.1) * 12 + (8 - (o + 1)) * 12 + 7 ≤ f; omega) with ⟨e3, k2⟩ | ⟨e3, e4⟩
          · rw [pb_0 e3]
            by_cases c3 : pt_ b n (px_ b n f 0 (o + 1) (pn_ b n s)).2.2 = 6
            · rw [if_pos c3]
              obtain ⟨a1, a2, a3, a4, a5, a6, a7, a8⟩ := k2
              exact Or.inl ⟨rfl, a1, a2, a3, a4, a5, a6, a7, (tk_le a8).1⟩
            · rw [if_neg c3]
              exact Or.inr ⟨Or.inl rfl, (tk_le k2.2.2.2.2.2.2.2).2⟩
          · rw [pb_n (by omega)]
            exact Or.inr ⟨e3, e4⟩
        · rw [if_neg c2]
          exact Or.inr ⟨Or.inr rfl, (tk_le hn).2⟩
      rw [if_neg c1]
      by_cases c2 : 20 ≤ pt_ b n s ∧ pt_ b n s ≤ 26
      · rw [if_pos c2]
        refine px_op hn (Or.inr (Or.inl (by omega))) (fun m => ?_)
        unfold sp_dp
        rw [if_pos (by omega)]
      rw [if_neg c2]
      by_cases c3 : ¬ pt_ b n s = 3
      · rw [if_pos c3]
        exact Or.inr ⟨Or.inl rfl, (tk_le hn).2⟩
      rw [if_neg c3]
      by_cases c4 : 9999 < pv_ b n s
      · rw [if_pos c4]
        exact Or.inr ⟨Or.inr rfl, (tk_le hn).2⟩
      rw [if_neg c4]
      refine px_op hn (Or.inl (by omega)) (fun m => ?_)
      unfold sp_dp
      rw [if_pos (by omega)]
