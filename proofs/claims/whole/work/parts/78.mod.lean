/-! the reference holds the state -/
def mw_ (i : Nat → Nat → Int32) (r : Nat) (F : sF) (s : sT) : Prop := me_ i r s.1 F.1 F.2.1 s.2 F.2.2.1 ∧ i 144 r = s.1 7 0
def mF_ (i : Nat → Nat → Int32) (F : sF) : Prop := (i 123 2 = nI F.2.2.2.2.2.2.1 ∧ i 123 4 = F.2.2.2.2.2.1 15 0 ∧ i 123 5 = F.2.2.2.2.2.1 16 0 ∧ i 123 7 = nI F.2.2.2.2.1) ∧ ml_ i F.2.2.2.1 ∧ (∀ h, h < F.1 → (if i 125 h ≤ 0 then 0 else i 125 h - 1) = F.2.2.2.2.2.1 1 h ∧ i 124 h = F.2.2.2.2.2.2.2 0 h) ∧
  (∀ p, p < F.2.1 → i 127 p = F.2.2.2.2.2.1 4 p ∧ i 128 p = F.2.2.2.2.2.1 5 p ∧ i 129 p = F.2.2.2.2.2.1 6 p ∧ i 126 p = F.2.2.2.2.2.2.2 1 p) ∧ (∀ c, c < F.2.2.2.2.2.2.1 → i 130 c = F.2.2.2.2.2.1 9 c ∧ i 131 c = F.2.2.2.2.2.1 10 c ∧ i 132 c = F.2.2.2.2.2.1 11 c) ∧
  (∀ q, q < F.2.2.1 → i 134 q = F.2.2.2.2.2.1 13 q ∧ i 135 q = F.2.2.2.2.2.1 14 q ∧ i 133 q = F.2.2.2.2.2.2.2 2 q)
def mN_ (i : Nat → Nat → Int32) (N : sN) : Prop := i 121 62 = nI N.1 ∧ i 121 63 = N.2.1 ∧ ∀ r, 97 ≤ r → r ≤ 101 → ∀ j, j < 24 → i (r + 62) j = N.2.2 r j
def mR_ (i : Nat → Nat → Int32) (R : sR) : Prop := i 121 2 = nI R.1 ∧ (∀ k, k < 700 → i 122 k = R.2.1 k) ∧ i 121 29 = R.2.2.1 ∧ i 121 30 = R.2.2.2
def mA_ (i : Nat → Nat → Int32) (F : sF) (A : sA) : Prop := mw_ i 0 F A.1 ∧ i 121 48 = nI A.2.1 ∧ ∀ k, k < A.2.1 → mw_ i (3 + k) F (A.2.2 k)
def mI_ (i : Nat → Nat → Int32) (F : sF) (I : sI) : Prop := i 121 47 = (if I.1 = true then 1 else 0) ∧ (I.1 = true → mw_ i 2 F I.2)
def mi_ (σ : sG) (i : Nat → Nat → Int32) : Prop := (i 121 49 = 0 ∧ i 121 50 = -1 ∧ i 121 51 = -1) ∧ mF_ i σ.1 ∧ mA_ i σ.1 σ.2.1 ∧ mI_ i σ.1 σ.2.2.1 ∧ mN_ i σ.2.2.2.1 ∧ mR_ i σ.2.2.2.2
def hf_ (q : Nat) : Nat := if q = 123 then 8 else if q ≤ 125 then 7 else if q ≤ 129 then 9 else if q ≤ 132 then 8 else if q ≤ 137 then 3 else 64
def mgl : List Nat := [2, 29, 30, 47, 48, 49, 50, 51, 62, 63]
/-- nothing that the state shows changed -/
def mg_ (i i' : Nat → Nat → Int32) : Prop := (∀ q, (q < 121 ∨ 164 < q) → i' q = i q) ∧ (∀ j, j ∈ mgl → i' 121 j = i 121 j) ∧ i' 122 = i 122 ∧ (∀ q, 123 ≤ q → q ≤ 139 → ∀ x, x < hf_ q → i' q x = i q x) ∧ (∀ q, 142 ≤ q → q ≤ 152 → ∀ x, (x < wd_ q ∨ 2 * wd_ q ≤ x) → i' q x = i q x) ∧ ∀ q, 159 ≤ q → q ≤ 163 → i' q = i q
theorem mg_rfl {i : Nat → Nat → Int32} : mg_ i i := ⟨fun _ _ => rfl, fun _ _ => rfl, rfl, fun _ _ _ _ _ => rfl, fun _ _ _ _ _ => rfl, fun _ _ _ => rfl⟩
theorem mg_tr {i i1 i2 : Nat → Nat → Int32} (h : mg_ i i1) (g : mg_ i1 i2) : mg_ i i2 := ⟨fun q a => (g.1 q a).trans (h.1 q a), fun j a => (g.2.1 j a).trans (h.2.1 j a), g.2.2.1.trans h.2.2.1, fun q a b x c => (g.2.2.2.1 q a b x c).trans (h.2.2.2.1 q a b x c), fun q a b x c => (g.2.2.2.2.1 q a b x c).trans (h.2.2.2.2.1 q a b x c), fun q a b => (g.2.2.2.2.2 q a b).trans (h.2.2.2.2.2 q a b)⟩
theorem mgl_ne {j : Nat} (h : j ∈ mgl) : j ≠ 35 ∧ j ≠ 0 ∧ j ≠ 52 ∧ j ≠ 55 ∧ j ≠ 56 ∧ j ≠ 57 := by
  unfold mgl at h
  simp at h
  omega
theorem mg_mf {i i' : Nat → Nat → Int32} (h : mf_ i i') : mg_ i i' := ⟨fun q a => h.1 q (by omega) (by omega) (by omega), fun j a => h.2 j (mgl_ne a).1, h.1 122 (by decide) (by decide) (by decide), fun q a b x _ => by rw [h.1 q (by omega) (by omega) (by omega)], fun q a b x _ => by rw [h.1 q (by omega) (by omega) (by omega)], fun q a b => h.1 q (by omega) (by omega) (by omega)⟩
theorem mg_mr {i i' : Nat → Nat → Int32} (h : mr_ 1 i i') : mg_ i i' := ⟨fun q a => h.1 q (by omega) (by omega) (by omega) (by omega), fun j a => h.2.1 j (mgl_ne a).1, h.1 122 (by decide) (by decide) (by decide) (by decide), fun q a b x _ => by rw [h.1 q (by omega) (by omega) (by omega) (by omega)], fun q a b x c => h.2.2 q a b x (by omega), fun q a b => h.1 q (by omega) (by omega) (by omega) (by omega)⟩
theorem mg_0 {i : Nat → Nat → Int32} {j : Nat} {x : Int32} (hj : j ∉ mgl) : mg_ i (ax_up i 121 j x) := ⟨fun q a => ax_up_r _ _ _ (by omega), fun k a => ax_up_j _ _ _ _ (fun e => hj (e ▸ a)), ax_up_r _ _ _ (by decide), fun q a b x _ => by rw [ax_up_r _ _ _ (by omega)], fun q a b x _ => by rw [ax_up_r _ _ _ (by omega)], fun q a b => ax_up_r _ _ _ (by omega)⟩
theorem ml_mg {i i' : Nat → Nat → Int32} {Z : sp_L} (hk : zk_ Z) (h : ml_ i Z) (f : mg_ i i') : ml_ i' Z := by
  intro k h3
  obtain ⟨h1, h2⟩ := h k h3
  have e6 : i' 136 k = i 136 k := f.2.2.2.1 136 (by decide) (by decide) k h3
  have e7 : i' 137 k = i 137 k := f.2.2.2.1 137 (by decide) (by decide) k h3
  rw [e6, e7]
  refine ⟨h1, fun hz => ?_⟩
  obtain ⟨g1, g2, g3⟩ := h2 hz
  obtain ⟨w1, w2, -⟩ := hk k h3 hz
  refine ⟨g1, g2, fun j j1 j2 => ?_⟩
  have e8 : i' 138 j = i 138 j := f.2.2.2.1 138 (by decide) (by decide) j (by show j < 64; omega)
  have e9 : i' 139 j = i 139 j := f.2.2.2.1 139 (by decide) (by decide) j (by show j < 64; omega)
  rw [e8, e9]
  exact g3 j j1 j2
theorem mw_mg {i i' : Nat → Nat → Int32} {r : Nat} {F : sF} {s : sT} (h51 : i 121 51 = -1) (hr : r ≠ 1) (ht : tk_ F s) (h : mw_ i r F s) (f : mg_ i i') : mw_ i' r F s := by
  obtain ⟨⟨a1, a2, a3, a4, a5, a6, a7⟩, a8⟩ := h
  obtain ⟨⟨w1, w2, w3, w4⟩, -⟩ := ht.1
  have n : ∀ x, x < 8 → i' 123 x = i 123 x := fun x hx => f.2.2.2.1 123 (by decide) (by decide) x hx
  have fl : ∀ j, j ∈ mgl → i' 121 j = i 121 j := f.2.1
  have k8 : ∀ x, x < 9 → i' 128 x = i 128 x := fun x hx => f.2.2.2.1 128 (by decide) (by decide) x hx
  have k9 : ∀ x, x < 9 → i' 129 x = i 129 x := fun x hx => f.2.2.2.1 129 (by decide) (by decide) x hx
  have k5 : ∀ x, x < 3 → i' 135 x = i 135 x := fun x hx => f.2.2.2.1 135 (by decide) (by decide) x hx
  have s1 : ∀ q, 142 ≤ q → q ≤ 145 → i' q r = i q r := fun q q1 q2 => f.2.2.2.2.1 q q1 (by omega) r (by unfold wd_; rw [if_pos q2]; omega)
  have s6 : ∀ x, x < 9 → i' 146 (9 * r + x) = i 146 (9 * r + x) := fun x hx => f.2.2.2.2.1 146 (by decide) (by decide) _ (by show _ < 9 ∨ 2 * 9 ≤ _; omega)
  have s7 : ∀ x, x < 7 → i' 147 (7 * r + x) = i 147 (7 * r + x) := fun x hx => f.2.2.2.2.1 147 (by decide) (by decide) _ (by show _ < 7 ∨ 2 * 7 ≤ _; omega)
  have s8 : ∀ x, x < 7 → i' 148 (7 * r + x) = i 148 (7 * r + x) := fun x hx => f.2.2.2.2.1 148 (by decide) (by decide) _ (by show _ < 7 ∨ 2 * 7 ≤ _; omega)
  have s9 : ∀ x, x < 12 → i' 149 (12 * r + x) = i 149 (12 * r + x) := fun x hx => f.2.2.2.2.1 149 (by decide) (by decide) _ (by show _ < 12 ∨ 2 * 12 ≤ _; omega)
  have s10 : ∀ x, x < 12 → i' 150 (12 * r + x) = i 150 (12 * r + x) := fun x hx => f.2.2.2.2.1 150 (by decide) (by decide) _ (by show _ < 12 ∨ 2 * 12 ≤ _; omega)
  have s11 : ∀ x, x < 12 → i' 151 (12 * r + x) = i 151 (12 * r + x) := fun x hx => f.2.2.2.2.1 151 (by decide) (by decide) _ (by show _ < 12 ∨ 2 * 12 ≤ _; omega)
  have s12 : ∀ x, x < 3 → i' 152 (3 * r + x) = i 152 (3 * r + x) := fun x hx => f.2.2.2.2.1 152 (by decide) (by decide) _ (by show _ < 3 ∨ 2 * 3 ≤ _; omega)
  refine ⟨?_, (s1 144 (by decide) (by decide)).trans a8⟩
  unfold me_
  rw [n 0 (by decide), n 1 (by decide), n 3 (by decide), n 5 (by decide), fl 49 (by decide), fl 50 (by decide), fl 51 (by decide), s1 142 (by decide) (by decide), s1 143 (by decide) (by decide), s1 144 (by decide) (by decide), s1 145 (by decide) (by decide)]
  refine ⟨a1, a2, a3, fun h hh => by rw [s7 h (by omega), s8 h (by omega)]; exact a4 h hh, fun p hp => ?_, fun c hc => by rw [s9 c (by omega), s10 c (by omega), s11 c (by omega)]; exact a6 c hc, fun q hq => by rw [s12 q (by omega), k5 q (by omega)]; exact a7 q hq⟩
  obtain ⟨b1, b2, b3, b4⟩ := a5 p hp
  have nz : ¬ nI p = i 121 51 := by rw [h51]; exact nI_nm1 (by omega)
  rw [if_neg nz] at b2
  rw [s6 p (by omega), k8 p (by omega), k9 p (by omega), if_neg nz]
  exact ⟨b1, b2, b3, b4⟩
theorem mF_mg {i i' : Nat → Nat → Int32} {F : sF} (hv : vF F) (h : mF_ i F) (f : mg_ i i') : mF_ i' F := by
  obtain ⟨⟨a1, a2, a3, a4⟩, b, c1, c2, c3, c4⟩ := h
  obtain ⟨⟨w1, w2, w3, w4⟩, -⟩ := hv.1.1
  have w8 := hv.2.1
  have n : ∀ q, 123 ≤ q → q ≤ 139 → ∀ x, x < hf_ q → i' q x = i q x := f.2.2.2.1
  refine ⟨⟨?_, ?_, ?_, ?_⟩, ml_mg hv.2.2.2.2.2.2 b f, fun h hh => ?_, fun p hp => ?_, fun c hc => ?_, fun q hq => ?_⟩
  · rw [n 123 (by decide) (by decide) 2 (by decide)]; exact a1
  · rw [n 123 (by decide) (by decide) 4 (by decide)]; exact a2
  · rw [n 123 (by decide) (by decide) 5 (by decide)]; exact a3
  · rw [n 123 (by decide) (by decide) 7 (by decide)]; exact a4
  · rw [n 125 (by decide) (by decide) h (by show h < 7; omega), n 124 (by decide) (by decide) h (by show h < 7; omega)]; exact c1 h hh
  · rw [n 126 (by decide) (by decide) p (by show p < 9; omega), n 127 (by decide) (by decide) p (by show p < 9; omega), n 128 (by decide) (by decide) p (by show p < 9; omega), n 129 (by decide) (by decide) p (by show p < 9; omega)]; exact c2 p hp
  · rw [n 130 (by decide) (by decide) c (by show c < 8; omega), n 131 (by decide) (by decide) c (by show c < 8; omega), n 132 (by decide) (by decide) c (by show c < 8; omega)]; exact c3 c hc
  · rw [n 133 (by decide) (by decide) q (by show q < 3; omega), n 134 (by decide) (by decide) q (by show q < 3; omega), n 135 (by decide) (by decide) q (by show q < 3; omega)]; exact c4 q hq
theorem mi_mg {σ : sG} {i i' : Nat → Nat → Int32} (hv : vi_ σ) (h : mi_ σ i) (f : mg_ i i') : mi_ σ i' := by
  obtain ⟨⟨a1, a2, a3⟩, b, ⟨c1, c2, c3⟩, ⟨d1, d2⟩, ⟨e1, e2, e3⟩, ⟨g1, g2, g3, g4⟩⟩ := h
  refine ⟨⟨(f.2.1 49 (by decide)).trans a1, (f.2.1 50 (by decide)).trans a2, (f.2.1 51 (by decide)).trans a3⟩, mF_mg hv.1 b f, ⟨mw_mg a3 (by decide) hv.2.1.1 c1 f, (f.2.1 48 (by decide)).trans c2, fun k hk => mw_mg a3 (by omega) (hv.2.1.2.2 k hk) (c3 k hk) f⟩, ⟨(f.2.1 47 (by decide)).trans d1, fun e => mw_mg a3 (by decide) (hv.2.2.1 e) (d2 e) f⟩, ⟨(f.2.1 62 (by decide)).trans e1, (f.2.1 63 (by decide)).trans e2, fun r r1 r2 j hj => by rw [f.2.2.2.2.2 (r + 62) (by omega) (by omega)]; exact e3 r r1 r2 j hj⟩, ⟨(f.2.1 2 (by decide)).trans g1, fun k hk => by rw [f.2.2.1]; exact g2 k hk, (f.2.1 29 (by decide)).trans g3, (f.2.1 30 (by decide)).trans g4⟩⟩
def mo_ (i : Nat → Nat → Int32) (lo : Nat → Nat → Int64) (L P S a b c : Nat) (v : ax_V) (σ : sG) : Option ax_V → ax_M → Prop := fun r M' => r = some v ∧ ∃ i' lo', M' = (none, i', lo', rf_ L P S a b c) ∧ mi_ σ i' ∧ (∀ q, (q < 121 ∨ 164 < q) → i' q = i q) ∧ ∀ k, k ≠ 140 → k ≠ 141 → lo' k = lo k
theorem mo_g {σ : sG} {i i' : Nat → Nat → Int32} {lo lo' : Nat → Nat → Int64} {L P S a b c : Nat} {v : ax_V} (hv : vi_ σ) (h : mi_ σ i) (f : mg_ i i') (hl : ∀ k, k ≠ 140 → k ≠ 141 → lo' k = lo k) : mo_ i lo L P S a b c v σ (some v) (none, i', lo', rf_ L P S a b c) := ⟨rfl, i', lo', rfl, mi_mg hv h f, f.1, hl⟩
/-- row 0 read plainly -/
theorem mw_0 {i : Nat → Nat → Int32} {F : sF} {s : sT} (h49 : i 121 49 = 0) (h51 : i 121 51 = -1) (hP : F.2.1 ≤ 9) (h : mw_ i 0 F s) : (i 145 0 = nI s.2 ∧ i 143 0 = s.1 15 0 ∧ i 142 0 = s.1 17 0 ∧ i 144 0 = s.1 7 0) ∧ (∀ h, h < F.1 → i 147 h = s.1 1 h ∧ i 148 h = s.1 2 h) ∧ (∀ p, p < F.2.1 → i 146 p = s.1 4 p ∧ i 128 p = s.1 5 p ∧ i 129 p = s.1 6 p) ∧ (∀ c, c < s.2 → i 149 c = s.1 9 c ∧ i 150 c = s.1 10 c ∧ i 151 c = s.1 11 c) ∧ (∀ q, q < F.2.2.1 → i 152 q = s.1 13 q ∧ i 135 q = s.1 14 q) := by
  obtain ⟨⟨a1, a2, a3, a4, a5, a6, a7⟩, a8⟩ := h
  rw [h49] at a2 a3
  refine ⟨⟨?_, ?_, a3.2, a8⟩, fun h hh => ?_, fun p hp => ?_, fun c hc => ?_, fun q hq => ?_⟩
  · rcases a2 with ⟨h, -⟩ | ⟨-, h⟩
    · exact absurd h (by decide)
    · exact h
  · have := a3.1; rw [if_neg (by decide)] at this; exact this
  · have := a4 h hh
    rw [h49, if_neg (by decide)] at this
    simpa using this
  · obtain ⟨b1, b2, b3, -⟩ := a5 p hp
    rw [if_neg (by rw [h51]; exact nI_nm1 (by omega))] at b2
    exact ⟨by simpa using b1, b2, b3⟩
  · simpa using a6 c hc
  · simpa using a7 q hq
