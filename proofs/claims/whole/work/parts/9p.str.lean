/-! the JDK's own methods on String constants -/
def ju_C (E : ax_E) (l : Launch) (d : Nat) (u : ax_U) (as : List ax_V) (M : ax_M) (Q : Option ax_V → ax_M → Prop) : Prop :=
  Met l u.1 (ax_wy u) (ax_rm d 0 0) (va_Pc (as.map (ax_cv E)) (ax_S E M)) (ax_Q E Q) 0 0 (ax_A E)
def ju_X (E : ax_E) (p : Program) (R : Room) (s : State) (m : MethodId) (args : Array Value) (meth : Method) (c : Code) (u : ax_U) (d : Nat) : Prop :=
  p.tables.exec = Jvm.exec ∧ c.code = u.2.1 ∧ c.maxLocals = u.2.2.1 ∧ s.vm.findClass u.1.cls = some m.cls ∧ (∀ w ∈ ax_gw, w.before args s = true) ∧ ax_K E s ∧ ax_Xok E ∧ meth.locks = false ∧ E.2.2.2.1 ≤ s.heap.size ∧ (d + 2 ≤ R.frames ∧ 52 + 40 * d ≤ R.locals)
theorem ju_intro {E : ax_E} {l : Launch} {d : Nat} {u : ax_U} {as : List ax_V} {M : ax_M} {Q : Option ax_V → ax_M → Prop} (hok : ax_Xok E) (hpl : plainName u.1.cls = true) (hlen : ax_sz as ≤ u.2.2.1)
    (body : ∀ (p : Program) (e : Env) (s : State) (m : MethodId) (args : Array Value) (below : List Frame) (meth : Method) (c : Code) (la : Array Slot), ju_X E p (ax_rm (d + 1) 0 0) s m args meth c u d → meth.sig.returnType = u.2.2.2.1 → ax_S E M s → lv_has la u.2.2.1 (ax_prs E 0 (ax_ent as)) → W p l e (ax_rm (d + 1) 0 0) s m args below meth c s.heap [] 0 0 (MQ below (ax_Q E Q) args s 0 0 (ax_A E)) (F0 m 0 la [])) : ju_C E l (d + 1) u as M Q := by
  refine Met.ofW (cc := u.2.1) (maxL := u.2.2.1) (ret := u.2.2.2.1) hpl rfl ?_
  intro p e s m args below meth c s₁ B hml hv
  obtain ⟨rfl, hH, hK, hX, hB⟩ := hv
  have hts := atoms_spec (ws := ax_wy u) B.pre
  have hown' : s.vm.findClass u.1.cls = some m.cls := findClass_of_methodNamed B.named
  rw [lg_entry_eq]
  have hl := lv_entry (as.map (ax_cv E)) (n := u.2.2.1) (by rw [ax_sl_len]; exact hlen)
  refine body p e s m _ below meth c _ ⟨B.exec, B.bytes, hml, hown', fun w hw => hts w (List.mem_cons_of_mem _ hw), hK, hok, B.notSynchronized, hB, ?_, ?_⟩ B.returns ⟨hH, hK, hX, hB⟩ ⟨hl.1, hl.2.1, fun q hq => hl.2.2 q (ax_ent_sub as 0 q hq)⟩
  · show d + 2 ≤ d + 1 + 1; omega
  · show 52 + 40 * d ≤ 12 + 40 * (d + 1); omega
