/-! the reference: a text taken over -/
theorem mF_hf {i4 i5 : Nat → Nat → Int32} {n : Nat} {q : qS} (hv : vq_ n q) (hk : kz_ i4 0 q.1) (hm : mh_ i4 q) (hr : ∀ r, 123 ≤ r → r ≤ 139 → ∀ x, x < hf_ r → i5 r x = i4 r (hf_ r + x)) : mF_ i5 (fq_ q) ∧ i5 123 0 = nI q.2.1.1 ∧ i5 123 1 = nI q.2.1.2.1 ∧ i5 123 3 = nI q.2.1.2.2.2 := by
  obtain ⟨⟨a1, a2, a3, a4, a5, a6⟩, hw, hf, ⟨d1, d2, d3⟩, d5, d6⟩ := hv
  obtain ⟨⟨n8, n9, n10, n11, n12, n13⟩, mH, mP, mC, mD, mL, mG, mI, mY⟩ := hm
  obtain ⟨k1, k2, k3, k4⟩ := hk
  have r3 : ∀ x, x < 8 → i5 123 x = i4 123 (8 + x) := fun x hx => hr 123 (by decide) (by decide) x hx
  have s7 : ∀ r, 124 ≤ r → r ≤ 125 → ∀ x, x < 7 → i5 r x = i4 r (7 + x) := fun r q1 q2 x hx => by
    have e : hf_ r = 7 := by unfold hf_; rw [if_neg (by omega), if_pos (by omega)]
    have := hr r (by omega) (by omega) x (by rw [e]; exact hx)
    rw [e] at this; exact this
  have s9 : ∀ r, 126 ≤ r → r ≤ 129 → ∀ x, x < 9 → i5 r x = i4 r (9 + x) := fun r q1 q2 x hx => by
    have e : hf_ r = 9 := by unfold hf_; rw [if_neg (by omega), if_neg (by omega), if_pos (by omega)]
    have := hr r (by omega) (by omega) x (by rw [e]; exact hx)
    rw [e] at this; exact this
  have s8 : ∀ r, 130 ≤ r → r ≤ 132 → ∀ x, x < 8 → i5 r x = i4 r (8 + x) := fun r q1 q2 x hx => by
    have e : hf_ r = 8 := by unfold hf_; rw [if_neg (by omega), if_neg (by omega), if_neg (by omega), if_pos (by omega)]
    have := hr r (by omega) (by omega) x (by rw [e]; exact hx)
    rw [e] at this; exact this
  have s3 : ∀ r, 133 ≤ r → r ≤ 137 → ∀ x, x < 3 → i5 r x = i4 r (3 + x) := fun r q1 q2 x hx => by
    have e : hf_ r = 3 := by unfold hf_; rw [if_neg (by omega), if_neg (by omega), if_neg (by omega), if_neg (by omega), if_pos (by omega)]
    have := hr r (by omega) (by omega) x (by rw [e]; exact hx)
    rw [e] at this; exact this
  have s64 : ∀ r, 138 ≤ r → r ≤ 139 → ∀ x, x < 64 → i5 r x = i4 r (64 + x) := fun r q1 q2 x hx => by
    have e : hf_ r = 64 := by unfold hf_; rw [if_neg (by omega), if_neg (by omega), if_neg (by omega), if_neg (by omega), if_neg (by omega)]
    have := hr r (by omega) (by omega) x (by rw [e]; exact hx)
    rw [e] at this; exact this
  refine ⟨⟨⟨?_, ?_, ?_, ?_⟩, fun k hk => ⟨fun h => ?_, fun h => ?_⟩, fun h hh => ⟨?_, ?_⟩, fun p hp => ?_, fun c hc => ?_, fun z hz => ?_⟩, ?_, ?_, ?_⟩
  · rw [r3 2 (by decide)]; exact n10
  · rw [r3 4 (by decide)]; exact n12
  · rw [r3 5 (by decide)]; exact n13
  · rw [r3 7 (by decide)]; exact k3
  · rw [s3 136 (by decide) (by decide) k hk, s3 137 (by decide) (by decide) k hk]
    exact (mL k hk).1 h
  · obtain ⟨x1, x2, x3, x4⟩ := d5 k hk h
    rw [s3 136 (by decide) (by decide) k hk, s3 137 (by decide) (by decide) k hk]
    obtain ⟨y1, y2⟩ := (mL k hk).2 h
    refine ⟨y1, y2, fun j j1 j2 => ?_⟩
    have j2 : j < q.2.2.2.2.2.1.2.2 k := j2
    rw [s64 138 (by decide) (by decide) j (by omega), s64 139 (by decide) (by decide) j (by omega)]
    exact k4 j (by omega)
  · have hh : h < q.2.1.1 := hh
    rw [s7 125 (by decide) (by decide) h (by omega), (mH h hh).2]
    obtain ⟨z1, v, v9, z2⟩ := mY.1 h (by omega)
    show _ = q.2.2.1 1 h
    cases hc : q.2.2.2.2.1 0 h with
    | false =>
      rw [show (if false = true then q.2.2.1 1 h + 1 else 0) = (0 : Int32) from if_neg (by decide), if_pos (show (0 : Int32) ≤ 0 by decide), z1 hc]
    | true =>
      rw [if_pos rfl, z2, show nI v + 1 = nI (v + 1) from nI_add v 1, if_neg (show ¬ nI (v + 1) ≤ 0 from fun g => absurd ((nI_leI (a := v + 1) (b := 0) (by omega) (by omega)).mp g) (by omega)), show nI (v + 1) - 1 = nI v from by rw [← nI_add v 1]; exact Int32.add_sub_cancel _ _]
  · have hh : h < q.2.1.1 := hh
    rw [s7 124 (by decide) (by decide) h (by omega)]; exact (mH h hh).1
  · have hp : p < q.2.1.2.1 := hp
    rw [s9 126 (by decide) (by decide) p (by omega), s9 127 (by decide) (by decide) p (by omega), s9 128 (by decide) (by decide) p (by omega), s9 129 (by decide) (by decide) p (by omega)]
    obtain ⟨y1, y2, y3, y4⟩ := mP p hp
    exact ⟨y2, y3, y4, y1⟩
  · have hc : c < q.2.1.2.2.1 := hc
    rw [s8 130 (by decide) (by decide) c (by omega), s8 131 (by decide) (by decide) c (by omega), s8 132 (by decide) (by decide) c (by omega)]
    exact mC c hc
  · have hz : z < q.2.1.2.2.2 := hz
    rw [s3 133 (by decide) (by decide) z (by omega), s3 134 (by decide) (by decide) z (by omega), s3 135 (by decide) (by decide) z (by omega)]
    obtain ⟨y1, y2, y3⟩ := mD z hz
    exact ⟨y2, y3, y1⟩
  · rw [r3 0 (by decide)]; exact n8
  · rw [r3 1 (by decide)]; exact n9
  · rw [r3 3 (by decide)]; exact n11
/-- a town begun out of a text's -/
theorem mp_st {i i' : Nat → Nat → Int32} {n : Nat} {q : qS} (hv : vq_ n q) (hF : mF_ i (fq_ q)) (hr : ∀ r, (r < 142 ∨ 152 < r) → i' r = i r) (hs : st_ i i' 0 q.2.1.1 q.2.1.2.1 q.2.1.2.2.1 q.2.1.2.2.2) : mp_ i' (fq_ q) (q.2.2.1, q.2.1.2.2.1) := by
  obtain ⟨⟨a1, a2, a3, a4, a5, a6⟩, hw, hf, ⟨d1, d2, d3⟩, d5, d6⟩ := hv
  obtain ⟨⟨g1, g2, g3, g4⟩, -, fH, fP, fC, fD⟩ := hF
  obtain ⟨⟨s1, s2, s3, s4⟩, sP, sH, sC, sD⟩ := hs
  refine ⟨⟨s4, s2.trans g2, s1.trans d2.symm, s3.trans d1.symm⟩, fun h hh => ?_, fun p hp => ?_, fun c hc => ?_, fun z hz => ?_⟩
  · have hh : h < q.2.1.1 := hh
    obtain ⟨e1, e2⟩ := sH h (by omega)
    rw [Nat.mul_zero, Nat.zero_add] at e1 e2
    rw [if_pos hh] at e1
    exact ⟨e1.trans (fH h hh).1, e2.trans (d3 h (by omega)).symm⟩
  · have e1 := sP p hp
    rw [Nat.mul_zero, Nat.zero_add] at e1
    rw [hr 128 (by decide), hr 129 (by decide)]
    obtain ⟨y1, y2, y3, y4⟩ := fP p hp
    exact ⟨e1.trans y1, y2, y3⟩
  · have e1 := sC c hc
    rw [Nat.mul_zero, Nat.zero_add] at e1
    obtain ⟨y1, y2, y3⟩ := fC c hc
    exact ⟨e1.1.trans y1, e1.2.1.trans y2, e1.2.2.trans y3⟩
  · have e1 := sD z hz
    rw [Nat.mul_zero, Nat.zero_add] at e1
    rw [hr 135 (by decide)]
    obtain ⟨y1, y2, y3⟩ := fD z hz
    exact ⟨e1.trans y1, y2⟩
