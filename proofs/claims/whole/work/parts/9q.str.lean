/-! calls of the JDK's own methods -/
def jX_ (E : ax_E) (p : Program) (R : Room) (s : State) (m : MethodId) (args : Array Value) (meth : Method) (c : Code) (cc : ByteArray) (nm : String) (nL d : Nat) : Prop :=
  p.tables.exec = Jvm.exec ∧ c.code = cc ∧ c.maxLocals = nL ∧ s.vm.findClass nm = some m.cls ∧ (∀ w ∈ ax_gw, w.before args s = true) ∧ ax_K E s ∧ ax_Xok E ∧ meth.locks = false ∧ E.2.2.2.1 ≤ s.heap.size ∧ (d + 2 ≤ R.frames ∧ 52 + 40 * d ≤ R.locals)
theorem ju_good {u : ax_U} (h : Cond.code u.1 u.2.1 u.2.2.1 u.2.2.2.1 ∈ ax_gw) : GoodIn ax_gw (ax_wy u) := by
  intro w hw
  rcases List.mem_cons.mp hw with h1 | h1
  · subst h1; exact ⟨h, good_of_word (List.mem_filter.mp h).2⟩
  · exact ax_gw_good w h1
section JCL
variable {E : ax_E} {p : Program} {l : Launch} {e : Env} {R : Room} {s : State} {m : MethodId} {args : Array Value} {below : List Frame} {meth : Method} {c : Code} {cc : ByteArray} {nm : String} {nL d : Nat} {Q : State → Prop} {pc : Nat} {ls : ax_L} {st : List ax_V} {M : ax_M} {kc ks : Nat}
theorem j_S_end (X : jX_ E p R s m args meth c cc nm nL d) {H : Heap} {locs : List Loc} (h1 : ax_H E M s H) (h2 : E.2.2.2.2.2 s H) (h3 : va_S (ax_A E) s.heap H locs) {t : State} (ht : t.heap = H) (hW : s.WarmedH t.vm) : ax_S E M t := by
  obtain ⟨-, -, -, -, -, hK, hok, -, hB, -⟩ := X
  subst ht
  exact ⟨h1.moved hW.alike, va_K.moved hW.alike hK, hok.1 _ _ _ hW h2, Nat.le_trans hB h3.1⟩
theorem j_preU (X : jX_ E p R s m args meth c cc nm nL d) {H : Heap} {locs : List Loc} (h1 : ax_H E M s H) (h2 : E.2.2.2.2.2 s H) (h3 : va_S (ax_A E) s.heap H locs) {av : List Value} : ∀ U : State, U.heap = H → s.WarmedH U.vm → va_Pc av (ax_S E M) av.toArray U := fun U hU hW => ⟨rfl, j_S_end X h1 h2 h3 hU hW⟩
theorem j_after (X : jX_ E p R s m args meth c cc nm nL d) {H : Heap} {locs : List Loc} {la : Array Slot} {mc ms : Nat} {rest : List ax_V} {st0 : List Value} {a : Array Value} {K : Option ax_V → ax_M → Prop} (hr : va_Run p l e R s m args below meth c H locs kc ks mc ms (F0 m pc la st0) (rest.map (ax_cv E)) (ax_Q E K a) (ax_A E)) (h2 : E.2.2.2.2.2 s H) (h3 : va_S (ax_A E) s.heap H locs) (h4 : lv_has la nL (ax_prs E 0 ls))
    (kk : ∀ v M', K v M' → ax_G E p l e R s m args below meth c nL Q (pc + 3) ls (v.toList ++ rest) M' (kc + mc) (ks + ms)) : W p l e R s m args below meth c H locs kc ks Q (F0 m pc la st0) := by
  intro T hT XT
  obtain ⟨v, st₀, t, T', L, h0, X', hL, e1, e2, ⟨⟨r, M', hv, hp, hS⟩, hz, hk⟩, stp⟩ := hr T hT XT
  cases hv
  rw [h0] at hz hk
  have hal : t.vm.Alike s.vm := by rw [← e2]; exact X'.warmed.alike.symm
  have hh : T'.heap = t.heap := e1
  obtain ⟨g1, -, g3, -⟩ := hS
  have k1 := kk r M' hp T'.heap (locs ++ L) la (by rw [hh]; exact g1.moved hal) (X.2.2.2.2.2.2.1.2.1 _ _ _ (fun q hq => by rw [e1]; exact hk q (Nat.lt_of_lt_of_le (Nat.lt_of_lt_of_le hq X.2.2.2.2.2.2.2.2.1) h3.1) (fun z => by unfold ax_A at z; omega)) h2)
    ⟨Nat.le_trans h3.1 (by rw [e1]; exact hz), fun q q1 q2 => by rw [e1, hk q (Nat.lt_of_lt_of_le q1 h3.1) q2]; exact h3.2.1 q q1 q2, fun q hq => by
      rcases List.mem_append.mp hq with h | h
      · exact h3.2.2 q h
      · exact hL q h⟩ h4
  obtain ⟨t2, a1, b1⟩ := k1 T' rfl X'
  refine ⟨t2, stp t2 ?_, b1⟩
  have e3 : (r.map (ax_cv E)).toList ++ rest.map (ax_cv E) = (r.toList ++ rest).map (ax_cv E) := by cases r <;> simp
  rw [e3]
  exact a1
theorem j_callV (X : jX_ E p R s m args meth c cc nm nL d) {u : ax_U} {idx n k : Nat} (hml : u.2.2.1 ≤ 20) (wc : Cond.code u.1 u.2.1 u.2.2.1 u.2.2.2.1 ∈ ax_gw) (wl : Cond.methodLink nm idx u.1 ∈ ax_gw) (wi : Cond.initialized u.1.cls ∈ ax_gw) (wm : Cond.instanceMethod u.1 ∈ ax_gw) (ws : Cond.selects u.1.cls u.1 u.1 ∈ ax_gw) (hne : u.1.cls ≠ "java/lang/invoke/MethodHandle" ∧ u.1.cls ≠ "java/lang/invoke/VarHandle" ∧ Option.map (fun d => d.parameters.length) (parseMethodDescriptor u.1.desc) = some n)
    (h0 : k ≠ 0) (hO : ∀ (U : State) (H : Heap), E.2.2.2.2.2 U H → va_O u.1.cls (ax_ad E k) (ax_A E) U H) {as rest : List ax_V} (hn : as.length = n) (hsz : ax_sz rest ≤ 8) (hfit : kc ≤ R.cells ∧ ks ≤ R.slots)
    (hC : ju_C E l d u (.inr (.inr k) :: as) M (fun v M' => ax_G E p l e R s m args below meth c nL Q (pc + 3) ls (v.toList ++ rest) M' kc ks)) (hdg : decode cc pc = .ok (.invokevirtual idx, 3)) : ax_G E p l e R s m args below meth c nL Q pc ls (as.reverse ++ .inr (.inr k) :: rest) M kc ks := by
  intro H locs la h1 h2 h3 h4
  obtain ⟨hx, hb, hml', hown, hts, hK, hok, hlk, hB, hR⟩ := id X
  have hrv : ax_rv E k = .ref (ax_ad E k) := by unfold ax_rv; rw [if_neg h0]
  obtain ⟨cell, q1, q2, q3, -⟩ := hO s H h2
  have cb := callB_of (R := R) (rm := ax_rm d 0 0) n hts (ju_good wc) rfl rfl rfl (hts _ wi) (hts _ wl) hne ⟨hR.1, by show 8 + (u.2.2.1 + 11) + (12 + 40 * d) ≤ R.locals; omega⟩
  have e1 : (as.reverse ++ .inr (.inr k) :: rest).map (ax_cv E) = (as.map (ax_cv E)).reverse ++ .ref (ax_ad E k) :: rest.map (ax_cv E) := by
    rw [List.map_append, List.map_reverse]
    show _ ++ ax_rv E k :: _ = _
    rw [hrv]
  have e2 : (.ref (ax_ad E k) :: as.map (ax_cv E)) = ((.inr (.inr k) :: as : List ax_V).map (ax_cv E)) := by
    show _ = ax_rv E k :: _
    rw [hrv]
  rw [e1]
  exact j_after X (ls := ls) (rest := rest) (mc := 0) (ms := 0) (va_runV (As := as.map (ax_cv E)) (rest := rest.map (ax_cv E)) (b := ax_ad E k) (C := u.1.cls) (nL := nL) ⟨hx, hb, hml', hown, hts⟩ hC ⟨cb, hts _ wm, hts _ ws⟩
    ⟨ax_pre hok, ⟨cell, q1, q2, q3⟩, by rw [e2]; exact j_preU X h1 h2 h3⟩ rfl (by rw [List.length_map]; exact hn) h4.1 rfl (lv_room (by rw [ax_sz_eq]; exact hsz)) hdg hfit) h2 h3 h4 (fun v M' hk => hk)
theorem j_callS (X : jX_ E p R s m args meth c cc nm nL d) {u : ax_U} {idx n : Nat} (hml : u.2.2.1 ≤ 20) (wc : Cond.code u.1 u.2.1 u.2.2.1 u.2.2.2.1 ∈ ax_gw) (wl : Cond.methodLink nm idx u.1 ∈ ax_gw) (wi : Cond.initialized u.1.cls ∈ ax_gw) (wm : Cond.static u.1 ∈ ax_gw) (hne : u.1.cls ≠ "java/lang/invoke/MethodHandle" ∧ u.1.cls ≠ "java/lang/invoke/VarHandle" ∧ Option.map (fun d => d.parameters.length) (parseMethodDescriptor u.1.desc) = some n)
    {as rest : List ax_V} (hn : as.length = n) (hsz : ax_sz rest ≤ 8) (hfit : kc ≤ R.cells ∧ ks ≤ R.slots)
    (hC : ju_C E l d u as M (fun v M' => ax_G E p l e R s m args below meth c nL Q (pc + 3) ls (v.toList ++ rest) M' kc ks)) (hdg : decode cc pc = .ok (.invokestatic idx, 3)) : ax_G E p l e R s m args below meth c nL Q pc ls (as.reverse ++ rest) M kc ks := by
  intro H locs la h1 h2 h3 h4
  obtain ⟨hx, hb, hml', hown, hts, hK, hok, hlk, hB, hR⟩ := id X
  have cb := callB_of (R := R) (rm := ax_rm d 0 0) n hts (ju_good wc) rfl rfl rfl (hts _ wi) (hts _ wl) hne ⟨hR.1, by show 8 + (u.2.2.1 + 11) + (12 + 40 * d) ≤ R.locals; omega⟩
  have e1 : (as.reverse ++ rest).map (ax_cv E) = (as.map (ax_cv E)).reverse ++ rest.map (ax_cv E) := by
    rw [List.map_append, List.map_reverse]
  rw [e1]
  exact j_after X (ls := ls) (rest := rest) (mc := 0) (ms := 0) (va_runS (As := as.map (ax_cv E)) (rest := rest.map (ax_cv E)) (nL := nL) ⟨hx, hb, hml', hown, hts⟩ hC ⟨cb, hts _ wm⟩
    ⟨ax_pre hok, j_preU X h1 h2 h3⟩ rfl (by rw [List.length_map]; exact hn) h4.1 rfl (lv_room (by rw [ax_sz_eq]; exact hsz)) hdg hfit) h2 h3 h4 (fun v M' hk => hk)
end JCL
