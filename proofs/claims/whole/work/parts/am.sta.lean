/-! what holds outside at the start -/
def sf_ (A : Nat → Prop) (a t N : Nat) (f : Nat → Nat) (U : State) (H : Heap) : Prop := va_O "java/lang/String" a A U H ∧ va_OF "java/lang/String" "coder" "B" (.int 0) a A U H ∧ va_OF "java/lang/String" "value" "[B" (.ref t) a A U H ∧ va_T .byte t N (fun j => .int (nI (f j))) A U H
theorem sf_.moved {A : Nat → Prop} {a t N : Nat} {f : Nat → Nat} {u U : State} {H : Heap} (hvm : u.vm.Alike U.vm) (h : sf_ A a t N f u H) : sf_ A a t N f U H := ⟨va_O.moved hvm h.1, va_OF.moved hvm h.2.1, va_OF.moved hvm h.2.2.1, va_T.moved hvm h.2.2.2⟩
theorem sf_.kept {A : Nat → Prop} {a t N : Nat} {f : Nat → Nat} {U : State} {H H1 : Heap} (h : sf_ A a t N f U H) (hq : ∀ a : Nat, a < H.size → ¬ A a → H1[a]? = H[a]?) : sf_ A a t N f U H1 := ⟨h.1.kept hq, h.2.1.kept hq, h.2.2.1.kept hq, h.2.2.2.kept hq⟩
section ST0
variable {args : Array Value} {s : State} {A : Nat → Prop}
theorem st_s (hA : ∀ a : Nat, a < s.heap.size → ¬ A a) {tm : Term} {N : Nat} {f : Nat → Nat} (hN : N < 2 ^ 31) (hex : (Cond.exactly tm "java/lang/String").before args s = true) (hco : (Cond.eq (.field tm "java/lang/String" "coder" "B") (.int 0)).before args s = true)
    (har : (Cond.arrayOf (.field tm "java/lang/String" "value" "[B") .byte).before args s = true) (hle : (Cond.eq (.length (.field tm "java/lang/String" "value" "[B")) (.int (Int32.ofNat N))).before args s = true)
    (hel : ∀ j : Nat, j < N → (Cond.eq (.elem (.field tm "java/lang/String" "value" "[B") (.int (Int32.ofNat j))) (.int (nI (f j)))).before args s = true) : ∃ a t : Nat, tm.eval args s none [] s = some (.ref a) ∧ sf_ A a t N f s s.heap := by
  obtain ⟨a, c, cA, kA, q1, q2, q3, q4, q5, q6, -⟩ := Cond.exactly_spec (args := args) (first := s) (o := none) (s := s) (idx := []) (t := tm) (cls := "java/lang/String") hex
  obtain ⟨t, ht, hT⟩ := va_Tof (f := fun j => .int (nI (f j))) (A := A) hN har (va_eqt hle) (fun j hj => va_eqt (hel j hj)) hA
  exact ⟨a, t, q1, ⟨cA, q3, q5, by rw [q6]; exact q2, hA a (Array.getElem?_eq_some_iff.mp q3).1⟩, vk_OFof q1 (va_eqt hco) hA, vk_OFof q1 ht hA, hT⟩
theorem st_a {tm : Term} (hex : (Cond.exactly tm "java/lang/String").before args s = true) : ∃ a : Nat, tm.eval args s none [] s = some (.ref a) := by
  obtain ⟨a, c, cA, kA, q1, -⟩ := Cond.exactly_spec (args := args) (first := s) (o := none) (s := s) (idx := []) (t := tm) (cls := "java/lang/String") hex
  exact ⟨a, q1⟩
theorem st_F (hA : ∀ a : Nat, a < s.heap.size → ¬ A a) (h1 : (Cond.laysStatic Bundle.tN "UNASSIGNED_STACK" Bundle.steD).before args s = true) (h2 : (Cond.laysStatic Bundle.tN "SUPPRESSED_SENTINEL" Bundle.listD).before args s = true) (r1 : (Cond.isRef (.static Bundle.tN "UNASSIGNED_STACK" Bundle.steD)).before args s = true) (r2 : (Cond.isRef (.static Bundle.tN "SUPPRESSED_SENTINEL" Bundle.listD)).before args s = true) : ∃ u0 sen : RefV, th_F A u0 sen s s.heap := by
  obtain ⟨c, k, i, f, a, cell, hc, hf, hst, hsta, hcell, hiss, hcls, hlt, hty⟩ := Cond.laysStatic_spec h1
  obtain ⟨c', k', i', f', a', cell', hc', hf', hst', hsta', hcell', hiss', hcls', hlt', hty'⟩ := Cond.laysStatic_spec h2
  cases hc.symm.trans hc'
  cases (State.fieldFound?_spec hf).1.symm.trans (State.fieldFound?_spec hf').1
  cases hsta.symm.trans hsta'
  cases hcell.symm.trans hcell'
  obtain ⟨u0, hu0⟩ := Cond.staticRefV hf hst hsta hcell hiss r1
  obtain ⟨sen, hsen⟩ := Cond.staticRefV hf' hst' hsta' hcell' hiss' r2
  exact ⟨u0, sen, c, k, i, i', f, f', a, cell, hc, hf, hf', ⟨hst, hst', hsta⟩, hcell, ⟨hiss, hcls⟩, ⟨hlt, hty⟩, ⟨hlt', hty'⟩, hu0, hsen, hA a (Array.getElem?_eq_some_iff.mp hcell).1⟩
theorem st_N (h : (Cond.not (.castable "java/util/NoSuchElementException" "java/lang/IndexOutOfBoundsException")).before args s = true) : th_N s := by
  have hv := Cond.holds_not_iff.mp h
  cases h1 : s.vm.findClass "java/util/NoSuchElementException" with
  | none => simp [Cond.value, h1] at hv
  | some c1 =>
    cases h2 : s.vm.findClass "java/lang/IndexOutOfBoundsException" with
    | none => simp [Cond.value, h1, h2] at hv
    | some c2 =>
      simp only [Cond.value, h1, h2] at hv
      exact ⟨c1, c2, h1, h2, Option.some.inj hv⟩
theorem th_N.moved {u U : State} (hvm : u.vm.Alike U.vm) (h : th_N u) : th_N U := by
  obtain ⟨c1, c2, h1, h2, h3⟩ := h
  exact ⟨c1, c2, by rw [hvm.findClass]; exact h1, by rw [hvm.findClass]; exact h2, by rw [hvm.assignable]; exact h3⟩
theorem in_ok : ∀ (c : Nat) (r : vw_C), ax_cl[c]? = some r → Cond.instantiable r.1 r.2.2 ∈ ax_gw
  | 0, r, h => by cases h; exact ax_wk_mem (q := (1, 160)) (by decide +kernel)
  | 1, r, h => by cases h; exact ax_wk_mem (q := (1, 195)) (by decide +kernel)
  | 2, r, h => by cases h; exact ax_wk_mem (q := (2, 5)) (by decide +kernel)
  | 3, r, h => by cases h; exact ax_wk_mem (q := (2, 172)) (by decide +kernel)
  | 4, r, h => by cases h; exact ax_wk_mem (q := (2, 152)) (by decide +kernel)
  | 5, r, h => by cases h; exact ax_wk_mem (q := (1, 34)) (by decide +kernel)
  | 6, r, h => by cases h; exact ax_wk_mem (q := (2, 209)) (by decide +kernel)
  | 7, r, h => by cases h; exact ax_wk_mem (q := (2, 30)) (by decide +kernel)
  | 8, r, h => by cases h; exact ax_wk_mem (q := (2, 36)) (by decide +kernel)
  | 9, r, h => by cases h; exact ax_wk_mem (q := (1, 40)) (by decide +kernel)
  | 10, r, h => by cases h; exact ax_wk_mem (q := (1, 26)) (by decide +kernel)
  | 11, r, h => by cases h; exact ax_wk_mem (q := (6, 35)) (by decide +kernel)
  | c + 12, r, h => by simp [ax_cl] at h
theorem ar_ok : Cond.arrayClass .int ∈ ax_gw ∧ Cond.arrayClass .boolean ∈ ax_gw ∧ Cond.arrayClass .long ∈ ax_gw := ⟨ax_wk_mem (q := (1, 158)) (by decide +kernel), ax_wk_mem (q := (1, 192)) (by decide +kernel), ax_wk_mem (q := (1, 193)) (by decide +kernel)⟩
theorem st_K (hts : ∀ w ∈ ax_gw, w.before args s = true) : ∃ (dC : Nat → ClassId) (dI : Nat → Nat → Nat) (dA : Nat → ClassId), va_K (dC, dI) ax_cl [(dA 0, .int), (dA 1, .boolean), (dA 2, .long)] s := by
  have h0 : ∀ c : Nat, ∃ q : ClassId × (Nat → Nat), ∀ r : vw_C, ax_cl[c]? = some r → u_Kn s r.1 r.2.1 r.2.2 q.1 q.2 := by
    intro c
    cases hc : ax_cl[c]? with
    | none => exact ⟨(0, fun _ => 0), fun r h => by cases h⟩
    | some r0 =>
      obtain ⟨cC, iS, hk⟩ := u_known (ws := ax_gw) hts (ax_lay hc) (hts _ (in_ok c r0 hc))
      exact ⟨(cC, iS), fun r h => by cases h; exact hk⟩
  obtain ⟨ad, had⟩ := Classical.axiomOfChoice h0
  have ha : ∀ ty : FieldType, (∀ C, ty ≠ .object C) → (Cond.arrayClass ty).before args s = true → ∃ cA : ClassId, ArrOfT s cA ty ∧ va_RA s cA ty := by
    intro ty hty h
    obtain ⟨c, k, comp, h1, h2, h3⟩ := Cond.arrayClass_spec h
    refine ⟨c, fun n z => ⟨fun k h => (by cases h), k, h2, comp, h3⟩, ?_⟩
    cases ty with
    | object C => exact absurd rfl (hty C)
    | _ => exact h1
  obtain ⟨a0, g0⟩ := ha .int (fun _ h => by cases h) (hts _ ar_ok.1)
  obtain ⟨a1, g1⟩ := ha .boolean (fun _ h => by cases h) (hts _ ar_ok.2.1)
  obtain ⟨a2, g2⟩ := ha .long (fun _ h => by cases h) (hts _ ar_ok.2.2)
  refine ⟨fun c => (ad c).1, fun c => (ad c).2, fun k => if k = 0 then a0 else if k = 1 then a1 else a2, fun c q hq => had c q hq, fun k q hk => ?_⟩
  match k, hk with
  | 0, hk => cases hk; exact g0
  | 1, hk => cases hk; exact g1
  | 2, hk => cases hk; exact g2
  | k + 3, hk => simp at hk
end ST0
