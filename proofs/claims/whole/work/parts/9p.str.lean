/-! the JDK's own methods on String constants -/
def ju_C (E : ax_E) (l : Launch) (d : Nat) (u : ax_U) (as : List ax_V) (M : ax_M) (Q : Option ax_V → ax_M → Prop) : Prop :=
  Met l u.1 (ax_wy u) (ax_rm d 0 0) (va_Pc (as.map (ax_cv E)) (ax_S E M)) (ax_Q E Q) 0 0 (ax_A E)
def ju_X (E : ax_E) (p : Program) (R : Room) (s : State) (m : MethodId) (args : Array Value) (meth : Method) (c : Code) (u : ax_U) (d : Nat) : Prop :=
  p.tables.exec = Jvm.exec ∧ c.code = u.2.1 ∧ c.maxLocals = u.2.2.1 ∧ s.vm.findClass u.1.cls = some m.cls ∧ (∀ w ∈ ax_gw, w.before args s = true) ∧ ax_K E s ∧ ax_Xok E ∧ meth.locks = false ∧ E.2.2.2.1 ≤ s.heap.size ∧ (d + 2 ≤ R.frames ∧ 52 + 40 * d ≤ R.locals)
theorem ju_intro {E : ax_E} {l : Launch} {d : Nat} {u : ax_U} {as : List ax_V} {M : ax_M} {Q : Option ax_V → ax_M → Prop} (hok : ax_Xok E) (hpl : plainName u.1.cls = true) (hlen : ax_sz as ≤ u.2.2.1)
    (body : ∀ (p : Program) (e : Env) (s : State) (m : MethodId) (args : Array Value) (below : List Frame) (meth : Method) (c : Code) (la : Array Slot), ju_X E p (ax_rm (d + 1) 0 0) s m args meth c u d → meth.sig.returnType = u.2.2.2.1 → ax_S E M s → lv_has la u.2.2.1 (ax_prs E 0 (ax_ent as)) → W p l e (ax_rm (d + 1) 0 0) s m args below meth c s.heap [] 0 0 (MQ below (ax_Q E Q) args s 0 0 (ax_A E)) (F0 m 0 la [])) : ju_C E l (d + 1) u as M Q := by
  refine Met.ofW (cc := u.2.1) (maxL := u.2.2.1) (ret := u.2.2.2.1) hpl rfl ?_
  intro p e s m args below meth c s₁ B hml hv
  obtain ⟨rfl, hH, hK, hX, hB⟩ := hv
  have hts := atoms_spec (ws := ax_wy u) B.pre
  have hown' : s.vm.findClass u.1.cls = some m.cls := findClass_of_methodNamed B.named
  rw [lg_entry_eq]
  have hl := lv_entry (as.map (ax_cv E)) (n := u.2.2.1) (by rw [ax_sl_len]; exact hlen)
  refine body p e s m _ below meth c _ ⟨B.exec, B.bytes, hml, hown', fun w hw => hts w (List.mem_cons_of_mem _ hw), hK, hok, B.notSynchronized, hB, ?_, ?_⟩ B.returns ⟨hH, hK, hX, hB⟩ ⟨hl.1, hl.2.1, fun q hq => hl.2.2 q (ax_ent_sub as 0 q hq)⟩
  · show d + 2 ≤ d + 1 + 1; omega
  · show 52 + 40 * d ≤ 12 + 40 * (d + 1); omega
def ju_L (E : ax_E) (p : Program) (s : State) (m : MethodId) (args : Array Value) (meth : Method) (c : Code) (u : ax_U) : Prop :=
  p.tables.exec = Jvm.exec ∧ c.code = u.2.1 ∧ c.maxLocals = u.2.2.1 ∧ s.vm.findClass u.1.cls = some m.cls ∧ (∀ w ∈ ax_gw, w.before args s = true) ∧ ax_K E s ∧ ax_Xok E ∧ meth.locks = false ∧ E.2.2.2.1 ≤ s.heap.size
/-- a method that calls nothing -/
theorem ju_intro0 {E : ax_E} {l : Launch} {d : Nat} {u : ax_U} {as : List ax_V} {M : ax_M} {Q : Option ax_V → ax_M → Prop} (hok : ax_Xok E) (hpl : plainName u.1.cls = true) (hlen : ax_sz as ≤ u.2.2.1)
    (body : ∀ (p : Program) (e : Env) (s : State) (m : MethodId) (args : Array Value) (below : List Frame) (meth : Method) (c : Code) (la : Array Slot), ju_L E p s m args meth c u → meth.sig.returnType = u.2.2.2.1 → ax_S E M s → lv_has la u.2.2.1 (ax_prs E 0 (ax_ent as)) → W p l e (ax_rm d 0 0) s m args below meth c s.heap [] 0 0 (MQ below (ax_Q E Q) args s 0 0 (ax_A E)) (F0 m 0 la [])) : ju_C E l d u as M Q := by
  refine Met.ofW (cc := u.2.1) (maxL := u.2.2.1) (ret := u.2.2.2.1) hpl rfl ?_
  intro p e s m args below meth c s₁ B hml hv
  obtain ⟨rfl, hH, hK, hX, hB⟩ := hv
  have hts := atoms_spec (ws := ax_wy u) B.pre
  have hown' : s.vm.findClass u.1.cls = some m.cls := findClass_of_methodNamed B.named
  rw [lg_entry_eq]
  have hl := lv_entry (as.map (ax_cv E)) (n := u.2.2.1) (by rw [ax_sl_len]; exact hlen)
  exact body p e s m _ below meth c _ ⟨B.exec, B.bytes, hml, hown', fun w hw => hts w (List.mem_cons_of_mem _ hw), hK, hok, B.notSynchronized, hB⟩ B.returns ⟨hH, hK, hX, hB⟩ ⟨hl.1, hl.2.1, fun q hq => hl.2.2 q (ax_ent_sub as 0 q hq)⟩
abbrev cS_length : ByteArray := prog_22_method_54_code
abbrev cS_charAt : ByteArray := prog_22_method_56_code
abbrev cS_coder : ByteArray := prog_22_method_152_code
abbrev cS_isLatin1 : ByteArray := prog_22_method_154_code
abbrev cS_checkIndex : ByteArray := prog_22_method_155_code
abbrev cS_latinAt : ByteArray := prog_23_method_2_code
abbrev cS_preIndex : ByteArray := prog_30_method_11_code
abbrev yS_length : MethodName := ⟨"java/lang/String", "length", "()I"⟩
abbrev yS_charAt : MethodName := ⟨"java/lang/String", "charAt", "(I)C"⟩
abbrev yS_coder : MethodName := ⟨"java/lang/String", "coder", "()B"⟩
abbrev yS_isLatin1 : MethodName := ⟨"java/lang/String", "isLatin1", "()Z"⟩
abbrev yS_checkIndex : MethodName := ⟨"java/lang/String", "checkIndex", "(II)V"⟩
abbrev yS_latinAt : MethodName := ⟨"java/lang/StringLatin1", "charAt", "([BI)C"⟩
abbrev yS_preIndex : MethodName := ⟨"jdk/internal/util/Preconditions", "checkIndex", "(IILjava/util/function/BiFunction;)I"⟩
abbrev uS_length : ax_U := (yS_length, cS_length, 1, some .int, 99, 0, 0)
abbrev uS_charAt : ax_U := (yS_charAt, cS_charAt, 2, some .char, 99, 0, 0)
abbrev uS_coder : ax_U := (yS_coder, cS_coder, 1, some .byte, 99, 0, 0)
abbrev uS_isLatin1 : ax_U := (yS_isLatin1, cS_isLatin1, 1, some .boolean, 99, 0, 0)
abbrev uS_checkIndex : ax_U := (yS_checkIndex, cS_checkIndex, 2, none, 99, 0, 0)
abbrev uS_latinAt : ax_U := (yS_latinAt, cS_latinAt, 2, some .char, 99, 0, 0)
abbrev uS_preIndex : ax_U := (yS_preIndex, cS_preIndex, 3, some .int, 99, 0, 0)
theorem wS_compact : ax_wk (2, 50) (.fieldLink "java/lang/String" 38 "java/lang/String" "COMPACT_STRINGS" "Z") = true := by decide +kernel
theorem wS_coder : ax_wk (9, 3) (.fieldLink "java/lang/String" 15 "java/lang/String" "coder" "B") = true := by decide +kernel
theorem wS_value : ax_wk (9, 2) (.fieldLink "java/lang/String" 9 "java/lang/String" "value" "[B") = true := by decide +kernel
/-- cell k is a String constant of N bytes f, its row is cell k + 2 -/
def jk_ (E : ax_E) (k N : Nat) (f : Nat → Nat) : Prop := (k = 3 ∨ k = 4) ∧ N < 2 ^ 31 ∧ (∀ j, j < N → f j < 128) ∧ (∃ z : Nat, ∀ (U : State) (H : Heap), E.2.2.2.2.2 U H → va_Z "jdk/internal/util/Preconditions" "SIOOBE_FORMATTER" "Ljava/util/function/BiFunction;" (ax_rv E z) (ax_A E) U H) ∧ ∀ (U : State) (H : Heap), E.2.2.2.2.2 U H → va_Z "java/lang/String" "COMPACT_STRINGS" "Z" (.int 1) (ax_A E) U H ∧ va_O "java/lang/String" (ax_ad E k) (ax_A E) U H ∧ va_OF "java/lang/String" "coder" "B" (.int 0) (ax_ad E k) (ax_A E) U H ∧ va_OF "java/lang/String" "value" "[B" (.ref (ax_ad E (k + 2))) (ax_ad E k) (ax_A E) U H ∧ va_T .byte (ax_ad E (k + 2)) N (fun j => .int (nI (f j))) (ax_A E) U H
theorem ju_end {E : ax_E} {p : Program} {s : State} {m : MethodId} {args : Array Value} {meth : Method} {c : Code} {u : ax_U} {M : ax_M} (X : ju_L E p s m args meth c u) (hS : ax_S E M s) {t : State} (ht : t.heap = s.heap) (hW : s.WarmedH t.vm) : ax_S E M t := by
  obtain ⟨-, -, -, -, -, hK, hok, -, hB⟩ := X
  obtain ⟨h1, h2, h3, h4⟩ := hS
  refine ⟨?_, va_K.moved hW.alike hK, ?_, by rw [ht]; exact h4⟩
  · rw [ht]; exact h1.moved hW.alike
  · rw [ht]; exact hok.1 _ _ _ hW h3
section STR
variable {E : ax_E} {l : Launch} {d : Nat} {M : ax_M} {k N : Nat} {f : Nat → Nat}
theorem j_coder (hok : ax_Xok E) (hk : jk_ E k N f) : ju_C E l d uS_coder [.inr (.inr k)] M (fun v M' => v = some (.inl 0) ∧ M' = M) := by
  refine ju_intro0 hok (by decide) (Nat.le_refl 1) ?_
  intro p e s m args below meth c la X hr hS hl
  obtain ⟨hx, hb, hml, hown, hts, hK, -, hlk, hB⟩ := id X
  obtain ⟨hZ, h1, h2, h3, h4⟩ := hk.2.2.2.2 s s.heap hS.2.2.1
  have hv : va_S (ax_A E) s.heap s.heap [] := va_S.rf
  have e0 : ax_cv E (.inr (.inr k)) = .ref (ax_ad E k) := by
    show ax_rv E k = _
    unfold ax_rv
    rw [if_neg (by rcases hk.1 with h | h <;> omega)]
  have hl0 : la[0]? = some (.val (.ref (ax_ad E k))) := by rw [← e0]; exact ax_lv_at hl rfl
  refine va_gets hx hb hZ hv hown (hts _ (ax_wk_mem wS_compact)) (fun x h => h) (show decode cS_coder 0 = .ok (.getstatic 38, 3) by decide +kernel) ?_
  refine lv_if_eq (tgt := 13) hx hb (show decode cS_coder 3 = .ok (.ifCond .eq 10, 3) by decide +kernel) (by decide) (fun q => absurd q (by decide)) (fun _ => ?_)
  refine lv_aload_n (i := 0) hx hb (show decode cS_coder 6 = .ok (.aload_n 0, 1) by decide +kernel) rfl hl0 ?_
  refine vk_getf hx hb h2 hv hown (hts _ (ax_wk_mem wS_coder)) (fun x h => h) (show decode cS_coder 7 = .ok (.getfield 15, 3) by decide +kernel) ?_
  refine lv_goto (tgt := 14) hx hb (show decode cS_coder 10 = .ok (.goto 4, 3) by decide +kernel) (by decide) ?_
  exact W.zret hx hb hr rfl (fun t ht hW => ⟨⟨some (.inl 0), M, rfl, ⟨rfl, rfl⟩, ju_end X hS ht hW⟩, hv.F ht⟩) (fun q h => hv.2.2 q h) (show decode cS_coder 14 = .ok (.ireturn, 1) by decide +kernel) hlk
end STR
