/-! the reference's calls: whom to wash -/
theorem bt_lsb (z : Int32) : z &&& 1 = 1 ↔ z.toBitVec.getLsbD 0 = true := by
  have h := pk_and z (m := 1) 1 (by decide)
  have e : z.toBitVec.getLsbD 0 = decide (z.toBitVec.toNat % 2 = 1) := by
    show z.toBitVec.toNat.testBit 0 = _
    rw [Nat.testBit_zero]
  rw [h, e, decide_eq_true_eq]
  rcases (show z.toBitVec.toNat % 2 ^ 1 = 0 ∨ z.toBitVec.toNat % 2 ^ 1 = 1 by omega) with g | g
  · rw [g]
    exact ⟨fun h => absurd h (by decide), fun h => by omega⟩
  · rw [g]
    exact ⟨fun _ => by omega, fun _ => rfl⟩
theorem bt_sub {x y : Int32} (h : x &&& (y ^^^ (-1)) = 0) (hx : x &&& 1 = 1) : y &&& 1 = 1 := by
  rw [bt_lsb] at hx ⊢
  have h2 : (x &&& (y ^^^ (-1))).toBitVec.getLsbD 0 = false := by rw [h]; decide
  have e : (x &&& (y ^^^ (-1))).toBitVec.getLsbD 0 = (x.toBitVec.getLsbD 0 && (y.toBitVec.getLsbD 0 ^^ (-1 : Int32).toBitVec.getLsbD 0)) := by
    show (x.toBitVec &&& (y.toBitVec ^^^ (-1 : Int32).toBitVec)).getLsbD 0 = _
    rw [BitVec.getLsbD_and, BitVec.getLsbD_xor]
  rw [e, hx, show (-1 : Int32).toBitVec.getLsbD 0 = true by decide] at h2
  cases hy : y.toBitVec.getLsbD 0 with
  | true => rfl
  | false => rw [hy] at h2; exact absurd h2 (by decide)
theorem m1_shr : ∀ p, p < 9 → (-1 : Int32) >>> (nI p &&& 31) = -1 := by decide
theorem bt_sub2 {x y : Int32} {p : Nat} (hp : p < 9) (h : x &&& (y ^^^ (-1)) = 0) (hx : (x >>> (nI p &&& 31)) &&& 1 = 1) : (y >>> (nI p &&& 31)) &&& 1 = 1 := by
  refine bt_sub ?_ hx
  have : (x &&& (y ^^^ (-1))) >>> (nI p &&& 31) = 0 := by rw [h, Int32.zero_shiftRight]
  rw [Int32.shiftRight_and, Int32.shiftRight_xor, m1_shr p hp] at this
  exact this
theorem my_bt {T : Nat → Nat → Int32} {h : Nat} : ∀ n, n ≤ 9 → (∃ m, m < 2 ^ n ∧ sp_my T h n = nI m) ∧ ∀ q, q < 9 → (sp_my T h n >>> (nI q &&& 31)) &&& 1 = 1 → T 4 q = nI h ∧ ¬ (T 7 0 >>> (nI q &&& 31)) &&& 1 = 1
  | 0, _ => ⟨⟨0, by decide, rfl⟩, fun q _ hb => by
    have : sp_my T h 0 = 0 := rfl
    rw [this, Int32.zero_shiftRight, Int32.zero_and] at hb
    exact absurd hb (by decide)⟩
  | n + 1, hn => by
    obtain ⟨⟨m, hm, em⟩, ih⟩ := my_bt (T := T) (h := h) n (by omega)
    have un : sp_my T h (n + 1) = if T 4 n = nI h ∧ ¬ (T 7 0 >>> (nI n &&& 31)) &&& 1 = 1 then sp_my T h n ||| (1 <<< (nI n &&& 31)) else sp_my T h n := rfl
    rw [un]
    by_cases c : T 4 n = nI h ∧ ¬ (T 7 0 >>> (nI n &&& 31)) &&& 1 = 1
    · rw [if_pos c]
      refine ⟨?_, fun q hq hb => ?_⟩
      · rw [em, sp_1k n (by omega), fa_or]
        exact ⟨_, Nat.or_lt_two_pow (by rw [Nat.pow_succ]; omega) (by rw [Nat.pow_succ]; have := Nat.two_pow_pos n; omega), rfl⟩
      · rw [or_p (by omega) hq] at hb
        rcases hb with hb | rfl
        · exact ih q hq hb
        · exact c
    · rw [if_neg c]
      exact ⟨⟨m, by rw [Nat.pow_succ]; omega, em⟩, ih⟩
theorem sp_A_lo {Z : sp_L} {T : Nat → Nat → Int32} {H Pn C x : Nat} (hx : x < 8) : sp_A Z T H Pn C x = sp_a2 Z T Pn C x := by
  unfold sp_A
  have := sp_a3_old (Z := Z) (T := T) (Pn := Pn) (C := C) (n := 0) (x := x) (by omega) (H * 8 - 8)
  rw [Nat.zero_add] at this
  exact this
theorem sp_A_hi {Z : sp_L} {T : Nat → Nat → Int32} {H Pn C n : Nat} (hx : 8 + n < H * 8) : sp_A Z T H Pn C (8 + n) = sp_a2 Z T Pn C (8 + n) + sp_A Z T H Pn C n * T 15 0 / 100 := by
  unfold sp_A
  obtain ⟨k, hk⟩ : ∃ k, H * 8 - 8 = n + 1 + k := ⟨H * 8 - 8 - (n + 1), by omega⟩
  have e1 := sp_a3_old (Z := Z) (T := T) (Pn := Pn) (C := C) (n := n + 1) (x := 8 + n) (by omega) k
  have e2 := sp_a3_old (Z := Z) (T := T) (Pn := Pn) (C := C) (n := n) (x := n) (by omega) (1 + k)
  rw [show n + (1 + k) = n + 1 + k by omega] at e2
  rw [hk, e1, e2, sp_a3_s, if_pos rfl, sp_a3_new n (8 + n) (Nat.le_refl _)]
section WSH
variable {Z : sp_L} {T : Nat → Nat → Int32} {H Pn C D : Nat} {s : Int32} {h : Nat}
theorem aw_sm {v : Int32} {p x : Nat} : sp_sm Z (ax_up T 7 0 v) p x = sp_sm Z T p x := rfl
theorem aw_1 (hh : ∀ p, p < Pn → ∃ k, k < 8 ∧ T 5 p = nI k) (hs : ∀ p, p < Pn → (s >>> (nI p &&& 31)) &&& 1 = 1 → sp_hm T p = h ∧ ¬ (T 7 0 >>> (nI p &&& 31)) &&& 1 = 1) : ∀ n, n ≤ Pn → (∀ x, x / 8 ≠ h → sp_a1 Z (ax_up T 7 0 (T 7 0 ||| s)) n x = sp_a1 Z T n x) ∧ ∀ (A : Nat → Int32) (k : Nat), k < 8 → sp_aw Z T A s n k + sp_a1 Z T n (h * 8 + k) = A k + sp_a1 Z (ax_up T 7 0 (T 7 0 ||| s)) n (h * 8 + k) := by
  intro n
  induction n with
  | zero =>
    have z1 : ∀ (T : Nat → Nat → Int32) x, sp_a1 Z T 0 x = 0 := fun T x => rfl
    have z2 : ∀ (A : Nat → Int32) k, sp_aw Z T A s 0 k = A k := fun A k => rfl
    exact fun _ => ⟨fun _ _ => by rw [z1, z1], fun A k _ => by rw [z1, z1, z2]⟩
  | succ n ih =>
    intro hn
    obtain ⟨i1, i2⟩ := ih (by omega)
    obtain ⟨u, hu, eu⟩ := hh n (by omega)
    have epk : sp_pk T n = u := by unfold sp_pk; rw [eu, nI_clamp (by omega)]
    have e7 : ((ax_up T 7 0 (T 7 0 ||| s) 7 0 >>> (nI n &&& 31)) &&& 1 = 1) ↔ ((T 7 0 >>> (nI n &&& 31)) &&& 1 = 1 ∨ (s >>> (nI n &&& 31)) &&& 1 = 1) := by
      rw [ax_up_s, Int32.shiftRight_or, or_bt]
    have s1 : ∀ x, sp_a1 Z (ax_up T 7 0 (T 7 0 ||| s)) (n + 1) x = if (ax_up T 7 0 (T 7 0 ||| s) 7 0 >>> (nI n &&& 31)) &&& 1 = 1 then sp_a1 Z (ax_up T 7 0 (T 7 0 ||| s)) n x else if x = sp_hm T n * 8 + u then sp_a1 Z (ax_up T 7 0 (T 7 0 ||| s)) n (sp_hm T n * 8 + u) + sp_sm Z T n (sp_hm T n) else sp_a1 Z (ax_up T 7 0 (T 7 0 ||| s)) n x := fun x => by
      have q1 : sp_hm (ax_up T 7 0 (T 7 0 ||| s)) n = sp_hm T n := rfl
      have q2 : sp_pk (ax_up T 7 0 (T 7 0 ||| s)) n = sp_pk T n := rfl
      rw [sp_a1_s, q1, q2, epk, aw_sm]
    have s2 : ∀ x, sp_a1 Z T (n + 1) x = if (T 7 0 >>> (nI n &&& 31)) &&& 1 = 1 then sp_a1 Z T n x else if x = sp_hm T n * 8 + u then sp_a1 Z T n (sp_hm T n * 8 + u) + sp_sm Z T n (sp_hm T n) else sp_a1 Z T n x := fun x => by
      rw [sp_a1_s, epk]
    by_cases hb : (s >>> (nI n &&& 31)) &&& 1 = 1
    · obtain ⟨b1, b2⟩ := hs n (by omega) hb
      refine ⟨fun x hx => ?_, fun A k hk => ?_⟩
      · rw [s1, s2, if_pos (e7.mpr (Or.inr hb)), if_neg b2, if_neg (fun e => hx (by rw [e, b1]; omega))]
        exact i1 x hx
      · have := i2 A k hk
        rw [s1, s2, if_pos (e7.mpr (Or.inr hb)), if_neg b2, sp_aw_s, if_pos hb, epk, b1]
        by_cases e : k = u
        · subst e
          rw [if_pos rfl, if_pos rfl, ← this, Int32.add_comm (sp_a1 Z T n (h * 8 + k)), ← Int32.add_assoc, Int32.sub_add_cancel]
        · rw [if_neg e, if_neg (by omega)]
          exact this
    · have e7' : ((ax_up T 7 0 (T 7 0 ||| s) 7 0 >>> (nI n &&& 31)) &&& 1 = 1) ↔ ((T 7 0 >>> (nI n &&& 31)) &&& 1 = 1) := e7.trans ⟨fun h => h.resolve_right hb, Or.inl⟩
      by_cases hc : (T 7 0 >>> (nI n &&& 31)) &&& 1 = 1
      · refine ⟨fun x hx => ?_, fun A k hk => ?_⟩
        · rw [s1, s2, if_pos (e7'.mpr hc), if_pos hc]; exact i1 x hx
        · rw [s1, s2, if_pos (e7'.mpr hc), if_pos hc, sp_aw_s, if_neg hb]; exact i2 A k hk
      · refine ⟨fun x hx => ?_, fun A k hk => ?_⟩
        · rw [s1, s2, if_neg (fun h => hc (e7'.mp h)), if_neg hc]
          by_cases e : x = sp_hm T n * 8 + u
          · rw [if_pos e, if_pos e, ← e, i1 x hx]
          · rw [if_neg e, if_neg e]; exact i1 x hx
        · rw [s1, s2, if_neg (fun h => hc (e7'.mp h)), if_neg hc, sp_aw_s, if_neg hb]
          by_cases e : h * 8 + k = sp_hm T n * 8 + u
          · rw [if_pos e, if_pos e, ← e, ← Int32.add_assoc, ← Int32.add_assoc, i2 A k hk]
          · rw [if_neg e, if_neg e]; exact i2 A k hk
theorem aw_2 {T' : Nat → Nat → Int32} (hT : ∀ f, f ≠ 7 → T' f = T f) : ∀ n x, sp_a2 Z T' Pn n x + sp_a1 Z T Pn x = sp_a2 Z T Pn n x + sp_a1 Z T' Pn x
  | 0, x => Int32.add_comm _ _
  | n + 1, x => by
    have ech : sp_ch T' n = sp_ch T n := by unfold sp_ch; rw [hT 9 (by decide)]
    have eck : sp_ck T' n = sp_ck T n := by unfold sp_ck; rw [hT 10 (by decide)]
    rw [sp_a2_s, sp_a2_s, ech, eck, hT 11 (by decide)]
    by_cases e : x = sp_ch T n * 8 + sp_ck T n
    · rw [if_pos e, if_pos e, ← e, Int32.add_comm _ (T 11 n), Int32.add_assoc, aw_2 hT n x, ← Int32.add_assoc, Int32.add_comm (T 11 n)]
    · rw [if_neg e, if_neg e]
      exact aw_2 hT n x
theorem aw_A (hw : wf_ T H Pn C D) (hh : h < H) (hs : ∀ p, p < Pn → (s >>> (nI p &&& 31)) &&& 1 = 1 → sp_hm T p = h ∧ ¬ (T 7 0 >>> (nI p &&& 31)) &&& 1 = 1) {k : Nat} (hk : k < 8) : sp_A Z (ax_up T 7 0 (T 7 0 ||| s)) H Pn C (h * 8 + k) = sp_aw Z T (fun k => sp_A Z T H Pn C (h * 8 + k)) s Pn k := by
  have hT : ∀ f, f ≠ 7 → ax_up T 7 0 (T 7 0 ||| s) f = T f := fun f hf => ax_up_r _ _ _ hf
  obtain ⟨a1, a2⟩ := aw_1 (Z := Z) (fun p hp => (hw.2.1 p hp).2) hs Pn (Nat.le_refl _)
  have b2 : ∀ x, x / 8 ≠ h → sp_a2 Z (ax_up T 7 0 (T 7 0 ||| s)) Pn C x = sp_a2 Z T Pn C x := fun x hx => by
    have := aw_2 (Z := Z) (Pn := Pn) hT C x
    rw [a1 x hx] at this
    exact (Int32.add_left_inj _).mp this
  have low : ∀ g, g < h → ∀ k, k < 8 → sp_A Z (ax_up T 7 0 (T 7 0 ||| s)) H Pn C (g * 8 + k) = sp_A Z T H Pn C (g * 8 + k) := by
    intro g
    induction g with
    | zero =>
      intro hg k hk
      rw [Nat.zero_mul, Nat.zero_add, sp_A_lo hk, sp_A_lo hk]
      exact b2 k (by omega)
    | succ g ih =>
      intro hg k hk
      rw [show (g + 1) * 8 + k = 8 + (g * 8 + k) by omega, sp_A_hi (by omega), sp_A_hi (by omega), ih (by omega) k hk, b2 _ (by omega), hT 15 (by decide)]
  have key : sp_A Z (ax_up T 7 0 (T 7 0 ||| s)) H Pn C (h * 8 + k) + sp_a1 Z T Pn (h * 8 + k) = sp_A Z T H Pn C (h * 8 + k) + sp_a1 Z (ax_up T 7 0 (T 7 0 ||| s)) Pn (h * 8 + k) := by
    by_cases h0 : h = 0
    · subst h0
      rw [Nat.zero_mul, Nat.zero_add, sp_A_lo hk, sp_A_lo hk]
      exact aw_2 hT C k
    · obtain ⟨g, rfl⟩ : ∃ g, h = g + 1 := ⟨h - 1, by omega⟩
      rw [show (g + 1) * 8 + k = 8 + (g * 8 + k) by omega, sp_A_hi (by omega), sp_A_hi (by omega), low g (by omega) k hk, hT 15 (by decide)]
      rw [Int32.add_comm (sp_a2 Z (ax_up T 7 0 (T 7 0 ||| s)) Pn C _), Int32.add_assoc, aw_2 hT C, ← Int32.add_assoc, Int32.add_comm (sp_A Z T H Pn C (g * 8 + k) * T 15 0 / 100)]
  have h2 := a2 (fun k => sp_A Z T H Pn C (h * 8 + k)) k hk
  exact (Int32.add_left_inj _).mp (key.trans h2.symm)
theorem sw_eq {q : Nat} (hw : wf_ T H Pn C D) (hh : h < H) (hs : ∀ p, p < Pn → (s >>> (nI p &&& 31)) &&& 1 = 1 → sp_hm T p = h ∧ ¬ (T 7 0 >>> (nI p &&& 31)) &&& 1 = 1) : sp_SB Z (ax_up T 7 0 (T 7 0 ||| s)) H Pn C q h = sp_sw Z T H Pn C q h s := by
  unfold sp_SB sp_sw
  have e : ∀ A, sp_sb Z (ax_up T 7 0 (T 7 0 ||| s)) q h A 8 = sp_sb Z T q h A 8 := fun A => rfl
  rw [e]
  exact sp_sb_congr (fun k hk => aw_A hw hh hs hk)
end WSH
