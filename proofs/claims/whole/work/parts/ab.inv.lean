/-! what the law keeps: rows that the two halves don't share -/
theorem ci_lt {σ : sG} {i i' : Nat → Nat → Int32} {P S : Nat} (h : ci_ σ i P S) (hr : ∀ r, r < 121 → i' r = i r) : ci_ σ i' P S := by
  obtain ⟨a1, a2, a3, a4, a5, a6⟩ := h
  exact ⟨cF_row a1 (fun r h => hr r (by omega)), cA_row a2 (fun r h => hr r (by omega)), cI_row a3 (by rw [hr 8 (by omega)]) (fun r r1 r2 => hr r (by omega)), cN_row a4 (by rw [hr 96 (by omega)]) (by rw [hr 96 (by omega)]) (fun r r1 r2 => hr r (by omega)), cR_row a5 (by rw [hr 8 (by omega)]) (hr 9 (by omega)) (hr 51 (by omega)), cW_row a6 (hr 53 (by omega)) (hr 2 (by omega))⟩
theorem me_hi {i i' : Nat → Nat → Int32} {r : Nat} {T : Nat → Nat → Int32} {H Pn C D : Nat} (h : me_ i r T H Pn C D) (e : ∀ q, 121 ≤ q → i' q = i q) : me_ i' r T H Pn C D := by
  unfold me_ at h ⊢
  simp only [e 121 (by decide), e 122 (by decide), e 123 (by decide), e 124 (by decide), e 125 (by decide), e 126 (by decide), e 127 (by decide), e 128 (by decide), e 129 (by decide), e 130 (by decide), e 131 (by decide), e 132 (by decide), e 133 (by decide), e 134 (by decide), e 135 (by decide), e 142 (by decide), e 143 (by decide), e 144 (by decide), e 145 (by decide), e 146 (by decide), e 147 (by decide), e 148 (by decide), e 149 (by decide), e 150 (by decide), e 151 (by decide), e 152 (by decide)]
  exact h
theorem mi_hi {σ : sG} {i i' : Nat → Nat → Int32} (h : mi_ σ i) (e : ∀ q, 121 ≤ q → i' q = i q) : mi_ σ i' := by
  have mw : ∀ {r : Nat} {F : sF} {s : sT}, mw_ i r F s → mw_ i' r F s := fun q => ⟨me_hi q.1 e, by rw [e 144 (by decide)]; exact q.2⟩
  obtain ⟨a1, a2, a3, a4, a5, a6⟩ := h
  refine ⟨by rw [e 121 (by decide)]; exact a1, mF_row a2 (fun q q1 _ => e q (by omega)), ⟨mw a3.1, by rw [e 121 (by decide)]; exact a3.2.1, fun k hk => mw (a3.2.2 k hk)⟩, ⟨by rw [e 121 (by decide)]; exact a4.1, fun q => mw (a4.2 q)⟩, ⟨by rw [e 121 (by decide)]; exact a5.1, by rw [e 121 (by decide)]; exact a5.2.1, fun r r1 r2 j hj => by rw [e (r + 62) (by omega)]; exact a5.2.2 r r1 r2 j hj⟩, ?_⟩
  unfold mR_ at a6 ⊢
  rw [e 121 (by decide), e 122 (by decide)]
  exact a6
