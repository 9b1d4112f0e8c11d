/-! the first state -/
def s00 : sG := (fq_ q00, ((T00, 0), 0, fun _ => (T00, 0)), (false, (T00, 0)), (0, -1, fun _ _ => 0), (0, fun _ => 0, 0, -1))
theorem vi_00 : vi_ s00 := by
  have hF : vF (fq_ q00) := vF_fq (vq_00 (n := 0))
  exact ⟨hF, ⟨hF.1, Nat.zero_le _, fun k hk => absurd hk (Nat.not_lt_zero k)⟩, fun h => (nomatch h), ⟨Nat.zero_le _, Or.inl rfl, fun j hj => absurd hj (Nat.not_lt_zero j)⟩, Nat.zero_le _, fun k _ => ⟨0, by decide, rfl⟩⟩
theorem no0 {p : Nat → Prop} : ∀ k, k < 0 → p k := fun k hk => absurd hk (Nat.not_lt_zero k)
section FST
variable {i : Nat → Nat → Int32} {L : Nat} {xs : Nat → Int32}
theorem tv_00 {w : Nat → Nat → Int32} {t : Nat} (h0 : w t 0 = 0) (h3 : w t 3 = 0) (h8 : w t 8 = 0) (h12 : w t 12 = 0) (h7 : w t 7 = 0) (h15 : w t 15 = 0) (h16 : w t 16 = 2) (h17 : w t 17 = 0) : tv_ w t T00 0 0 0 0 := by
  simp only [tv_]
  exact ⟨h0, h3, h8, h12, h7, h15, h16, h17, no0, no0, no0, no0⟩
theorem ci_00 (h2 : i 2 0 = nI 100 ∧ i 2 1 = nI 99 ∧ i 2 2 = nI 99999) : ci_ s00 (ax_rg i win_ 8 165) 10 54 := by
  refine ⟨⟨rfl, rfl, by decide, ⟨fun r hr => ⟨fun _ => ?_, fun h => (nomatch h)⟩, rfl, tv_00 rfl rfl rfl rfl rfl rfl rfl rfl, ⟨rfl, rfl, rfl⟩, no0, no0, no0⟩, ⟨rfl, rfl, fun h _ => rfl⟩, ⟨rfl, rfl, fun h _ => rfl⟩⟩, ⟨tv_00 rfl rfl rfl rfl rfl rfl rfl rfl, rfl, no0⟩, ⟨rfl, fun h => (nomatch h)⟩, ⟨rfl, rfl, fun r r1 r2 j _ => ?_⟩, ⟨rfl, fun k _ => rfl, rfl, rfl⟩, fun k _ => rfl, h2⟩
  · rfl
  · rcases (show r = 97 ∨ r = 98 ∨ r = 99 ∨ r = 100 ∨ r = 101 by omega) with rfl | rfl | rfl | rfl | rfl <;> rfl
theorem mw_00 {w : Nat → Nat → Int32} (h : w = ax_rg i win_ 8 165) : mw_ w 0 (fq_ q00) (T00, 0) := by
  subst h
  refine ⟨?_, rfl⟩
  unfold me_
  exact ⟨⟨rfl, rfl, rfl, rfl⟩, Or.inr ⟨by show ¬ win_ 121 49 = 4; decide, rfl⟩, ⟨rfl, rfl⟩, no0, no0, no0, no0⟩
theorem mi_00 : mi_ s00 (ax_rg i win_ 8 165) := by
  refine ⟨⟨rfl, rfl, rfl⟩, ⟨⟨rfl, rfl, rfl, rfl⟩, fun k _ => ⟨fun _ => ⟨rfl, rfl⟩, fun h => (nomatch h)⟩, no0, no0, no0, no0⟩, ⟨mw_00 rfl, rfl, no0⟩, ⟨rfl, fun h => (nomatch h)⟩, ⟨rfl, rfl, fun r r1 r2 j _ => ?_⟩, rfl, fun k _ => rfl, rfl, rfl⟩
  rcases (show r = 97 ∨ r = 98 ∨ r = 99 ∨ r = 100 ∨ r = 101 by omega) with rfl | rfl | rfl | rfl | rfl <;> rfl
theorem lI_00 (h1 : i 1 = xs) (h2 : i 2 0 = nI 100 ∧ i 2 1 = nI 99 ∧ i 2 2 = nI 99999) : lI L xs s00 (ax_rg i win_ 8 165) 10 54 37 := ⟨rfl, ci_00 h2, mi_00, vi_00, h1⟩
end FST
