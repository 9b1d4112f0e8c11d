/-! a method's entry and end, calls, new cells -/
def ax_sz : List ax_V → Nat
  | [] => 0
  | v :: t => ax_cat v + ax_sz t
theorem ax_sz_eq (E : ax_E) : ∀ st : List ax_V, (((st.map (ax_cv E)).map fun v => v.category).sum) = ax_sz st
  | [] => rfl
  | v :: t => by
    simp only [List.map_cons, List.sum_cons, ax_sz, ax_cat_cv]
    rw [← ax_sz_eq E t]
theorem ax_sl_len (E : ax_E) : ∀ as : List ax_V, (lg_sl (as.map (ax_cv E))).length = ax_sz as
  | [] => rfl
  | v :: t => by
    have h := ax_sl_len E t
    unfold lg_sl at h ⊢
    simp only [List.map_cons, List.flatMap_cons, List.length_append, ax_sz, ax_cat_cv, h]
    rcases v with x | x | k <;> rfl
theorem ax_S.calling {E : ax_E} {M : ax_M} {U : State} (h : ax_S E M U) (g : JFrame) (mk : MethodId) (a : Array Value) (hok : ax_Xok E) : ax_S E M (U.calling g mk a) :=
  ⟨ax_H.moved (u := U) (U := U.calling g mk a) (Vm.Alike.refl U.vm) h.1, va_K.moved (u := U) (U := U.calling g mk a) (Vm.Alike.refl U.vm) h.2.1, hok.1 U (U.calling g mk a) _ (State.WarmedH.refl U) h.2.2.1, h.2.2.2⟩
theorem ax_lv_nones {E : ax_E} {la : Array Slot} {nL n : Nat} {ls : ax_L} (h : lv_has la nL (ax_prs E 0 ls)) : lv_has la nL (ax_prs E 0 (ls ++ List.replicate n none)) := by
  refine ax_lv_sub h (fun i v hi => ?_)
  by_cases hl : i < ls.length
  · rwa [List.getElem?_append_left hl] at hi
  · rw [List.getElem?_append_right (by omega), List.getElem?_replicate] at hi
    split at hi <;> simp at hi
theorem ax_intro {E : ax_E} {l : Launch} {d mi own : Nat} {as : List ax_V} {M : ax_M} {Q : Option ax_V → ax_M → Prop} (hok : ax_Xok E) (hpl : plainName (ax_mu mi).1.cls = true) (hown : ax_cn.getD own "" = (ax_mu mi).1.cls) (hlen : ax_sz as ≤ (ax_mu mi).2.2.1)
    (body : ∀ (p : Program) (e : Env) (s : State) (m : MethodId) (args : Array Value) (below : List Frame) (meth : Method) (c : Code), ax_X E p (ax_rm (d + 1) (ax_mu mi).2.2.2.2.2.1 (ax_mu mi).2.2.2.2.2.2) s m args meth c (ax_mu mi).2.1 own (ax_mu mi).2.2.1 d → meth.sig.returnType = (ax_mu mi).2.2.2.1 → meth.name = (ax_mu mi).1.name →
      ax_G E p l e (ax_rm (d + 1) (ax_mu mi).2.2.2.2.2.1 (ax_mu mi).2.2.2.2.2.2) s m args below meth c (ax_mu mi).2.2.1 (MQ below (ax_Q E Q) args s (ax_mu mi).2.2.2.2.2.1 (ax_mu mi).2.2.2.2.2.2 (ax_A E)) 0 (ax_ent as ++ List.replicate ((ax_mu mi).2.2.1 - ax_sz as) none) [] M 0 0) : ax_C E l (d + 1) mi as M Q := by
  refine Met.ofW (cc := (ax_mu mi).2.1) (maxL := (ax_mu mi).2.2.1) (ret := (ax_mu mi).2.2.2.1) hpl rfl ?_
  intro p e s m args below meth c s₁ B hml hv
  obtain ⟨rfl, hH, hK, hX, hB⟩ := hv
  have hts := atoms_spec (ws := ax_wy (ax_mu mi)) B.pre
  have hown' : s.vm.findClass (ax_cn.getD own "") = some m.cls := by rw [hown]; exact findClass_of_methodNamed B.named
  rw [lg_entry_eq]
  have hl := lv_entry (as.map (ax_cv E)) (n := (ax_mu mi).2.2.1) (by rw [ax_sl_len]; exact hlen)
  refine body p e s m _ below meth c ⟨B.exec, B.bytes, hml, hown', fun w hw => hts w (List.mem_cons_of_mem _ hw), hK, hok, B.notSynchronized, hB, ?_, ?_⟩ B.returns (name_of_methodNamed B.named B.method).1 s.heap [] _ hH hX va_S.rf (ax_lv_nones ⟨hl.1, hl.2.1, fun q hq => hl.2.2 q (ax_ent_sub as 0 q hq)⟩)
  · show d + 2 ≤ d + 1 + 1; omega
  · show 52 + 40 * d ≤ 12 + 40 * (d + 1); omega
theorem ax_C.mono {E : ax_E} {l : Launch} {d mi : Nat} {as : List ax_V} {M : ax_M} {Q Q' : Option ax_V → ax_M → Prop} (h : ax_C E l d mi as M Q) (hq : ∀ r M', Q r M' → Q' r M') : ax_C E l d mi as M Q' := by
  unfold ax_C Met at h ⊢
  exact MetFree.mono h (fun _ _ q => q) (fun _ _ _ _ _ q => q) (fun a s o t _ ⟨⟨⟨r, M', h1, h2, h3⟩, h4⟩, h5⟩ => ⟨⟨⟨r, M', h1, hq r M' h2, h3⟩, h4⟩, h5⟩)
section AXC
variable {E : ax_E} {p : Program} {l : Launch} {e : Env} {R : Room} {s : State} {m : MethodId} {args : Array Value} {below : List Frame} {meth : Method} {c : Code} {cc : ByteArray} {own nL d : Nat} {Q : State → Prop} {pc : Nat} {ls : ax_L} {st : List ax_V} {M : ax_M} {kc ks : Nat}
theorem ax_S_end (X : ax_X E p R s m args meth c cc own nL d) {H : Heap} {locs : List Loc} (h1 : ax_H E M s H) (h2 : E.2.2.2.2.2 s H) (h3 : va_S (ax_A E) s.heap H locs) {t : State} (ht : t.heap = H) (hW : s.WarmedH t.vm) : ax_S E M t := by
  obtain ⟨-, -, -, -, -, hK, hok, -, hB, -⟩ := X
  subst ht
  exact ⟨h1.moved hW.alike, va_K.moved hW.alike hK, hok.1 _ _ _ hW h2, Nat.le_trans hB h3.1⟩
theorem ax_g_iret (X : ax_X E p R s m args meth c cc own nL d) {Qr : Option ax_V → ax_M → Prop} {mc ms : Nat} {x : Int32} {ty : FieldType} (hr : meth.sig.returnType = some ty) (hn : narrow ty (.int x) = .int x) (hk : kc ≤ mc ∧ ks ≤ ms) (hq : Qr (some (.inl x)) M) (hdg : decode cc pc = .ok (.ireturn, 1)) : ax_G E p l e R s m args below meth c nL (MQ below (ax_Q E Qr) args s mc ms (ax_A E)) pc ls [.inl x] M kc ks := by
  intro H locs la h1 h2 h3 h4
  refine W.widen hk.1 hk.2 ?_
  exact W.zret X.1 X.2.1 hr hn (fun t ht hW => ⟨⟨some (.inl x), M, rfl, hq, ax_S_end X h1 h2 h3 ht hW⟩, h3.F ht⟩) (fun q h => h3.2.2 q h) hdg X.2.2.2.2.2.2.2.1
theorem ax_g_lret (X : ax_X E p R s m args meth c cc own nL d) {Qr : Option ax_V → ax_M → Prop} {mc ms : Nat} {x : Int64} (hr : meth.sig.returnType = some .long) (hk : kc ≤ mc ∧ ks ≤ ms) (hq : Qr (some (.inr (.inl x))) M) (hdg : decode cc pc = .ok (.lreturn, 1)) : ax_G E p l e R s m args below meth c nL (MQ below (ax_Q E Qr) args s mc ms (ax_A E)) pc ls [.inr (.inl x)] M kc ks := by
  intro H locs la h1 h2 h3 h4
  refine W.widen hk.1 hk.2 ?_
  exact W.lret X.1 X.2.1 hr (fun t ht hW => ⟨⟨some (.inr (.inl x)), M, rfl, hq, ax_S_end X h1 h2 h3 ht hW⟩, h3.F ht⟩) (fun q h => h3.2.2 q h) hdg X.2.2.2.2.2.2.2.1
theorem ax_g_vret (X : ax_X E p R s m args meth c cc own nL d) {Qr : Option ax_V → ax_M → Prop} {mc ms : Nat} (hr : meth.sig.returnType = none) (hk : kc ≤ mc ∧ ks ≤ ms) (hq : Qr none M) (hdg : decode cc pc = .ok (.return_, 1)) : ax_G E p l e R s m args below meth c nL (MQ below (ax_Q E Qr) args s mc ms (ax_A E)) pc ls [] M kc ks := by
  intro H locs la h1 h2 h3 h4
  refine W.widen hk.1 hk.2 ?_
  exact W.vret X.1 X.2.1 hr (fun t ht hW => ⟨⟨none, M, rfl, hq, ax_S_end X h1 h2 h3 ht hW⟩, h3.F ht⟩) (fun q h => h3.2.2 q h) hdg X.2.2.2.2.2.2.2.1
/-- behind a call -/
theorem ax_after (X : ax_X E p R s m args meth c cc own nL d) {H : Heap} {locs : List Loc} {la : Array Slot} {mc ms : Nat} {rest : List ax_V} {st0 : List Value} {a : Array Value} {K : Option ax_V → ax_M → Prop} (hr : va_Run p l e R s m args below meth c H locs kc ks mc ms (F0 m pc la st0) (rest.map (ax_cv E)) (ax_Q E K a) (ax_A E)) (h2 : E.2.2.2.2.2 s H) (h3 : va_S (ax_A E) s.heap H locs) (h4 : lv_has la nL (ax_prs E 0 ls))
    (kk : ∀ v M', K v M' → ax_G E p l e R s m args below meth c nL Q (pc + 3) ls (v.toList ++ rest) M' (kc + mc) (ks + ms)) : W p l e R s m args below meth c H locs kc ks Q (F0 m pc la st0) := by
  intro T hT XT
  obtain ⟨v, st₀, t, T', L, h0, X', hL, e1, e2, ⟨⟨r, M', hv, hp, hS⟩, hz, hk⟩, stp⟩ := hr T hT XT
  cases hv
  rw [h0] at hz hk
  have hal : t.vm.Alike s.vm := by rw [← e2]; exact X'.warmed.alike.symm
  have hh : T'.heap = t.heap := e1
  obtain ⟨g1, -, g3, -⟩ := hS
  have k1 := kk r M' hp T'.heap (locs ++ L) la (by rw [hh]; exact g1.moved hal) (X.2.2.2.2.2.2.1.2.1 _ _ _ (fun q hq => by rw [e1]; exact hk q (Nat.lt_of_lt_of_le (Nat.lt_of_lt_of_le hq X.2.2.2.2.2.2.2.2.1) h3.1) (fun z => by unfold ax_A at z; omega)) h2)
    ⟨Nat.le_trans h3.1 (by rw [e1]; exact hz), fun q q1 q2 => by rw [e1, hk q (Nat.lt_of_lt_of_le q1 h3.1) q2]; exact h3.2.1 q q1 q2, fun q hq => by
      rcases List.mem_append.mp hq with h | h
      · exact h3.2.2 q h
      · exact hL q h⟩ h4
  obtain ⟨t2, a1, b1⟩ := k1 T' rfl X'
  refine ⟨t2, stp t2 ?_, b1⟩
  have e3 : (r.map (ax_cv E)).toList ++ rest.map (ax_cv E) = (r.toList ++ rest).map (ax_cv E) := by cases r <;> simp
  rw [e3]
  exact a1
theorem ax_pre (hok : ax_Xok E) {av : List Value} : FrameBlind (va_Pc av (ax_S E M)) := fun a U g mk q => ⟨q.1, q.2.calling g mk a hok⟩
theorem ax_preU (X : ax_X E p R s m args meth c cc own nL d) {H : Heap} {locs : List Loc} (h1 : ax_H E M s H) (h2 : E.2.2.2.2.2 s H) (h3 : va_S (ax_A E) s.heap H locs) {av : List Value} : ∀ U : State, U.heap = H → s.WarmedH U.vm → va_Pc av (ax_S E M) av.toArray U := fun U hU hW => ⟨rfl, ax_S_end X h1 h2 h3 hU hW⟩
theorem ax_g_callV (X : ax_X E p R s m args meth c cc own nL d) {idx mi n r3 k : Nat} {p1 p2 p3 p4 : Nat × Nat} (hq : ax_ML[r3]? = some (own, idx, 0, mi, n, p1, p2, p3, p4)) {as rest : List ax_V} (hn : as.length = n) (hob : ax_ob M.1 k ((ax_mu mi).2.2.2.2.1 + 4) = true) (hsz : ax_sz rest ≤ 8) (hfit : kc ≤ R.cells ∧ ks ≤ R.slots)
    (hC : ax_C E l d mi (.inr (.inr k) :: as) M (fun v M' => ax_G E p l e R s m args below meth c nL Q (pc + 3) ls (v.toList ++ rest) M' kc ks)) (hdg : decode cc pc = .ok (.invokevirtual idx, 3)) : ax_G E p l e R s m args below meth c nL Q pc ls (as.reverse ++ .inr (.inr k) :: rest) M kc ks := by
  intro H locs la h1 h2 h3 h4
  have hf := ax_ML_ok _ (List.mem_of_getElem? hq)
  unfold ax_mc at hf
  simp only [Bool.and_eq_true, decide_eq_true_eq] at hf
  obtain ⟨⟨⟨⟨⟨w1, w2⟩, w3⟩, w4⟩, w5⟩, ⟨⟨w6, w7⟩, w8⟩, w9⟩ := hf
  obtain ⟨hx, hb, hml, hown, hts, hK, hok, hlk, hB, hR⟩ := id X
  obtain ⟨ht, h8, hnn⟩ := ax_ob_t hob
  obtain ⟨r, hr, cell, q1, q2, q3, q4⟩ := (h1.2.1 k h8 hnn).2.2.2 _ ht
  have hcl : r.1 = (ax_mu mi).1.cls := by rw [hr] at w8; exact Option.some.inj w8
  have hmc : (ax_mu mi).2.2.2.2.2.1 = 0 ∧ (ax_mu mi).2.2.2.2.2.2 = 0 := by rw [w9]; exact ⟨rfl, rfl⟩
  have cb := callB_of (R := R) (rm := ax_rm d (ax_mu mi).2.2.2.2.2.1 (ax_mu mi).2.2.2.2.2.2) n hts (ax_wy_good (ax_mu_mem w5)) rfl rfl rfl (hts _ (ax_wk_mem w2)) (hts _ (ax_wk_mem w1)) w3 ⟨hR.1, by show 8 + ((ax_mu mi).2.2.1 + 11) + (12 + 40 * d) ≤ R.locals; omega⟩
  have e1 : (as.reverse ++ .inr (.inr k) :: rest).map (ax_cv E) = (as.map (ax_cv E)).reverse ++ .ref (ax_ad E k) :: rest.map (ax_cv E) := by
    rw [List.map_append, List.map_reverse]
    show _ ++ ax_rv E k :: _ = _
    rw [ax_rv_8 h8]
  have e2 : (.ref (ax_ad E k) :: as.map (ax_cv E)) = ((.inr (.inr k) :: as : List ax_V).map (ax_cv E)) := by
    show _ = ax_rv E k :: _
    rw [ax_rv_8 h8]
  rw [e1]
  refine ax_after X (ls := ls) (rest := rest) (mc := (ax_mu mi).2.2.2.2.2.1) (ms := (ax_mu mi).2.2.2.2.2.2) (va_runV (As := as.map (ax_cv E)) (rest := rest.map (ax_cv E)) (b := ax_ad E k) (C := (ax_mu mi).1.cls) (nL := nL) ⟨hx, hb, hml, hown, hts⟩ hC ⟨cb, hts _ (ax_wk_mem w6), hts _ (ax_wk_mem w7)⟩
    ⟨ax_pre hok, ⟨cell, q1, by rw [q3]; rfl, by rw [q2, ← hcl]; exact (hK.1 _ r hr).2.1⟩, by rw [e2]; exact ax_preU X h1 h2 h3⟩ rfl (by rw [List.length_map]; exact hn) h4.1 rfl (lv_room (by rw [ax_sz_eq]; exact hsz)) hdg (by rw [hmc.1, hmc.2]; exact hfit)) h2 h3 h4 (fun v M' hk => ?_)
  rw [hmc.1, hmc.2]
  exact hk
theorem ax_g_callS (X : ax_X E p R s m args meth c cc own nL d) {idx mi n r3 : Nat} {p1 p2 p3 p4 : Nat × Nat} (hq : ax_ML[r3]? = some (own, idx, 1, mi, n, p1, p2, p3, p4)) {as rest : List ax_V} (hn : as.length = n) (hsz : ax_sz rest ≤ 8) (hfit : kc ≤ R.cells ∧ ks ≤ R.slots)
    (hC : ax_C E l d mi as M (fun v M' => ax_G E p l e R s m args below meth c nL Q (pc + 3) ls (v.toList ++ rest) M' kc ks)) (hdg : decode cc pc = .ok (.invokestatic idx, 3)) : ax_G E p l e R s m args below meth c nL Q pc ls (as.reverse ++ rest) M kc ks := by
  intro H locs la h1 h2 h3 h4
  have hf := ax_ML_ok _ (List.mem_of_getElem? hq)
  unfold ax_mc at hf
  simp only [Bool.and_eq_true, decide_eq_true_eq] at hf
  obtain ⟨⟨⟨⟨⟨w1, w2⟩, w3⟩, w4⟩, w5⟩, w6, w9⟩ := hf
  obtain ⟨hx, hb, hml, hown, hts, hK, hok, hlk, hB, hR⟩ := id X
  have hmc : (ax_mu mi).2.2.2.2.2.1 = 0 ∧ (ax_mu mi).2.2.2.2.2.2 = 0 := by rw [w9]; exact ⟨rfl, rfl⟩
  have cb := callB_of (R := R) (rm := ax_rm d (ax_mu mi).2.2.2.2.2.1 (ax_mu mi).2.2.2.2.2.2) n hts (ax_wy_good (ax_mu_mem w5)) rfl rfl rfl (hts _ (ax_wk_mem w2)) (hts _ (ax_wk_mem w1)) w3 ⟨hR.1, by show 8 + ((ax_mu mi).2.2.1 + 11) + (12 + 40 * d) ≤ R.locals; omega⟩
  have e1 : (as.reverse ++ rest).map (ax_cv E) = (as.map (ax_cv E)).reverse ++ rest.map (ax_cv E) := by
    rw [List.map_append, List.map_reverse]
  rw [e1]
  refine ax_after X (ls := ls) (rest := rest) (mc := (ax_mu mi).2.2.2.2.2.1) (ms := (ax_mu mi).2.2.2.2.2.2) (va_runS (As := as.map (ax_cv E)) (rest := rest.map (ax_cv E)) (nL := nL) ⟨hx, hb, hml, hown, hts⟩ hC ⟨cb, hts _ (ax_wk_mem w6)⟩
    ⟨ax_pre hok, ax_preU X h1 h2 h3⟩ rfl (by rw [List.length_map]; exact hn) h4.1 rfl (lv_room (by rw [ax_sz_eq]; exact hsz)) hdg (by rw [hmc.1, hmc.2]; exact hfit)) h2 h3 h4 (fun v M' hk => ?_)
  rw [hmc.1, hmc.2]
  exact hk
theorem ax_g_callI (X : ax_X E p R s m args meth c cc own nL d) {idx mi n r3 k : Nat} {p1 p2 p3 p4 : Nat × Nat} (hq : ax_ML[r3]? = some (own, idx, 2, mi, n, p1, p2, p3, p4)) {as rest : List ax_V} (hn : as.length = n) (h8 : k ≠ 0) (hsz : ax_sz rest ≤ 8) (hfit : kc + (ax_mu mi).2.2.2.2.2.1 ≤ R.cells ∧ ks + (ax_mu mi).2.2.2.2.2.2 ≤ R.slots)
    (hC : ax_C E l d mi (.inr (.inr k) :: as) M (fun v M' => ax_G E p l e R s m args below meth c nL Q (pc + 3) ls (v.toList ++ rest) M' (kc + (ax_mu mi).2.2.2.2.2.1) (ks + (ax_mu mi).2.2.2.2.2.2))) (hdg : decode cc pc = .ok (.invokespecial idx, 3)) : ax_G E p l e R s m args below meth c nL Q pc ls (as.reverse ++ .inr (.inr k) :: rest) M kc ks := by
  intro H locs la h1 h2 h3 h4
  have hf := ax_ML_ok _ (List.mem_of_getElem? hq)
  unfold ax_mc at hf
  simp only [Bool.and_eq_true, decide_eq_true_eq] at hf
  obtain ⟨⟨⟨⟨⟨w1, w2⟩, w3⟩, w4⟩, w5⟩, ⟨w6, w7⟩, w8⟩ := hf
  obtain ⟨hx, hb, hml, hown, hts, hK, hok, hlk, hB, hR⟩ := id X
  have cb := callB_of (R := R) (rm := ax_rm d (ax_mu mi).2.2.2.2.2.1 (ax_mu mi).2.2.2.2.2.2) n hts (ax_wy_good (ax_mu_mem w5)) rfl rfl rfl (hts _ (ax_wk_mem w2)) (hts _ (ax_wk_mem w1)) w3 ⟨hR.1, by show 8 + ((ax_mu mi).2.2.1 + 11) + (12 + 40 * d) ≤ R.locals; omega⟩
  have er : ax_rv E k = .ref (ax_ad E k) := by unfold ax_rv; rw [if_neg h8]
  have e1 : (as.reverse ++ .inr (.inr k) :: rest).map (ax_cv E) = (as.map (ax_cv E)).reverse ++ .ref (ax_ad E k) :: rest.map (ax_cv E) := by
    rw [List.map_append, List.map_reverse]
    show _ ++ ax_rv E k :: _ = _
    rw [er]
  have e2 : (.ref (ax_ad E k) :: as.map (ax_cv E)) = ((.inr (.inr k) :: as : List ax_V).map (ax_cv E)) := by
    show _ = ax_rv E k :: _
    rw [er]
  rw [e1]
  rw [w8] at cb
  exact ax_after X (ls := ls) (rest := rest) (va_runI (As := as.map (ax_cv E)) (rest := rest.map (ax_cv E)) (b := ax_ad E k) (nL := nL) ⟨hx, hb, hml, hown, hts⟩ hC ⟨cb, w7, hts _ (ax_wk_mem w6)⟩
    ⟨ax_pre hok, by rw [e2]; exact ax_preU X h1 h2 h3⟩ rfl (by rw [List.length_map]; exact hn) h4.1 rfl (lv_room (by rw [ax_sz_eq]; exact hsz)) hdg hfit) h2 h3 h4 (fun v M' hk => hk)
/-- a private constructor of a nest mate -/
theorem ax_g_callN (X : ax_X E p R s m args meth c cc own nL d) {idx mi k : Nat} {w1 w2 : Nat × Nat} (hl : va_Nw (.methodLinkNest (ax_cn.getD own "") idx (ax_mu mi).1 "NoseCensus") s) (hw2 : ax_wk w1 (.initialized (ax_mu mi).1.cls) = true) (hw6 : ax_wk w2 (.instanceMethod (ax_mu mi).1) = true) (w3 : (ax_mu mi).1.cls ≠ "java/lang/invoke/MethodHandle" ∧ (ax_mu mi).1.cls ≠ "java/lang/invoke/VarHandle" ∧ (parseMethodDescriptor (ax_mu mi).1.desc).map (fun d => d.parameters.length) = some 0)
    (w4 : (ax_mu mi).2.2.1 ≤ 21) (w5 : mi < ax_mt.length) (w7 : (ax_mu mi).1.name = "<init>") (w8 : (ax_mu mi).2.2.2.1 = none) {rest : List ax_V} (h8 : k ≠ 0) (hsz : ax_sz rest ≤ 8) (hfit : kc + (ax_mu mi).2.2.2.2.2.1 ≤ R.cells ∧ ks + (ax_mu mi).2.2.2.2.2.2 ≤ R.slots)
    (hC : ax_C E l d mi [.inr (.inr k)] M (fun v M' => ax_G E p l e R s m args below meth c nL Q (pc + 3) ls (v.toList ++ rest) M' (kc + (ax_mu mi).2.2.2.2.2.1) (ks + (ax_mu mi).2.2.2.2.2.2))) (hdg : decode cc pc = .ok (.invokespecial idx, 3)) : ax_G E p l e R s m args below meth c nL Q pc ls (.inr (.inr k) :: rest) M kc ks := by
  intro H locs la h1 h2 h3 h4
  obtain ⟨hx, hb, hml, hown, hts, hK, hok, hlk, hB, hR⟩ := id X
  have cb := va_cnB (R := R) (rm := ax_rm d (ax_mu mi).2.2.2.2.2.1 (ax_mu mi).2.2.2.2.2.2) (ret := (ax_mu mi).2.2.2.1) 0 hts (ax_wy_good (ax_mu_mem w5)) rfl rfl rfl hl (hts _ (ax_wk_mem hw2)) w3 ⟨hR.1, by show 8 + ((ax_mu mi).2.2.1 + 11) + (12 + 40 * d) ≤ R.locals; omega⟩
  have er : ax_rv E k = .ref (ax_ad E k) := by unfold ax_rv; rw [if_neg h8]
  have e1 : (.inr (.inr k) :: rest).map (ax_cv E) = .ref (ax_ad E k) :: rest.map (ax_cv E) := by
    show ax_rv E k :: _ = _
    rw [er]
  have e2 : [.ref (ax_ad E k)] = (([.inr (.inr k)] : List ax_V).map (ax_cv E)) := by
    show _ = [ax_rv E k]
    rw [er]
  rw [e1]
  rw [w8] at cb
  exact ax_after X (ls := ls) (rest := rest) (va_runIN (As := []) (rest := rest.map (ax_cv E)) (b := ax_ad E k) (nL := nL) ⟨hx, hb, hml, hown, hts⟩ hC ⟨cb, w7, hts _ (ax_wk_mem hw6)⟩
    ⟨ax_pre hok, by rw [e2]; exact ax_preU X h1 h2 h3⟩ rfl rfl h4.1 rfl (lv_room (by rw [ax_sz_eq]; exact hsz)) hdg hfit) h2 h3 h4 (fun v M' hk => hk)
theorem ax_g_obj (X : ax_X E p R s m args meth c cc own nL d) {idx k : Nat} {a1 a2 a3 : Nat × Nat} (w1 : ax_wk a1 (.methodLink (ax_cn.getD own "") idx Lib.objectInit) = true) (w2 : ax_wk a2 (.instanceMethod Lib.objectInit) = true) (w3 : ax_wk a3 (.code Lib.objectInit ⟨#[0xb1]⟩ 1 none) = true) (h8 : k ≠ 0) (hsz : ax_sz st ≤ 8) (hdg : decode cc pc = .ok (.invokespecial idx, 3))
    (kk : ax_G E p l e R s m args below meth c nL Q (pc + 3) ls st M kc ks) : ax_G E p l e R s m args below meth c nL Q pc ls (.inr (.inr k) :: st) M kc ks := by
  intro H locs la h1 h2 h3 h4
  obtain ⟨hx, hb, hml, hown, hts, hK, hok, hlk, hB, hR⟩ := id X
  have er : ax_rv E k = .ref (ax_ad E k) := by unfold ax_rv; rw [if_neg h8]
  have e1 : (.inr (.inr k) :: st).map (ax_cv E) = .ref (ax_ad E k) :: st.map (ax_cv E) := by
    show ax_rv E k :: _ = _
    rw [er]
  rw [e1]
  have hz := ax_sz_eq E st
  exact W.objInit hx hb hown (hts _ (ax_wk_mem w1)) (hts _ (ax_wk_mem w2)) (hts _ (ax_wk_mem w3)) rfl (by show la.size = _; rw [h4.1, hml]) rfl hdg (by omega) (by show 2 * 0 + _ + 12 ≤ _; omega) (kk H locs la h1 h2 h3 h4)
theorem ax_g_copy (X : ax_X E p R s m args meth c cc own nL d) {idx k k0 : Nat} {a1 a2 a3 a4 : Nat × Nat} (w1 : ax_wk a1 (.methodLink (ax_cn.getD own "") idx arraycopyName) = true) (w2 : ax_wk a2 (.native arraycopyName) = true) (w3 : ax_wk a3 (.static arraycopyName) = true) (w4 : ax_wk a4 (.initialized "java/lang/System") = true)
    (hob0 : ax_ob M.1 k0 0 = true) (hob : ax_ob M.1 k 0 = true) {sp dp n : Int32} (q1 : ¬ sp < 0) (q2 : ¬ dp < 0) (q3 : ¬ n < 0) (q4 : sp.toNatClampNeg + n.toNatClampNeg ≤ (ax_SH k0).2) (q5 : dp.toNatClampNeg + n.toNatClampNeg ≤ (ax_SH k).2) (hsz : ax_sz st ≤ 8) (hdg : decode cc pc = .ok (.invokestatic idx, 3))
    (kk : ax_G E p l e R s m args below meth c nL Q (pc + 3) ls st (M.1, ax_ur M.2.1 k (va_cpy (M.2.1 k0) (M.2.1 k) sp.toNatClampNeg dp.toNatClampNeg n.toNatClampNeg), M.2.2.1, M.2.2.2) kc ks) : ax_G E p l e R s m args below meth c nL Q pc ls (.inl n :: .inl dp :: .inr (.inr k) :: .inl sp :: .inr (.inr k0) :: st) M kc ks := by
  intro H locs la h1 h2 h3 h4
  obtain ⟨hx, hb, hml, hown, hts, hK, hok, hlk, hB, hR⟩ := id X
  obtain ⟨c0, t0, g0⟩ := ax_arr h1 hob0
  obtain ⟨c1, t1, g1⟩ := ax_arr h1 hob
  have e1 : (.inl n :: .inl dp :: .inr (.inr k) :: .inl sp :: .inr (.inr k0) :: st).map (ax_cv E) = .int n :: .int dp :: .ref (ax_ad E k) :: .int sp :: .ref (ax_ad E k0) :: st.map (ax_cv E) := by
    show Value.int n :: .int dp :: ax_rv E k :: .int sp :: ax_rv E k0 :: _ = _
    rw [ax_rv_8 g0, ax_rv_8 g1]
  rw [e1]
  have nn : ∀ z : Int32, ¬ z < 0 → z.toInt = (z.toNatClampNeg : Int) := by
    intro z hz
    have hz0 : (0 : Int) ≤ z.toInt := by
      have := Int32.not_lt.mp hz
      simpa using Int32.le_iff_toInt_le.mp this
    show z.toInt = ((z.toInt.toNat : Nat) : Int)
    omega
  have hz := ax_sz_eq E st
  have hc0 := c0.1 t0
  have hc1 := c1.1 t1
  intro T hT X0
  obtain ⟨-, k0', hk0, cm0, hkk0⟩ := (hK.2 0 _ rfl).1 (ax_SH k0).2 (fun j => .int (M.2.1 k0 j))
  obtain ⟨-, k1', hk1, cm1, hkk1⟩ := (hK.2 0 _ rfl).1 (ax_SH k).2 (fun j => .int (M.2.1 k j))
  obtain ⟨vm', X', step⟩ := X0.arraycopy hx hown (hts _ (ax_wk_mem w1)) (hts _ (ax_wk_mem w2)) (hts _ (ax_wk_mem w3)) (hts _ (ax_wk_mem w4)) (srcPos := sp) (destPos := dp) (n := n) (by rw [hT]; exact hc0) (by rw [hT]; exact hc1)
    (fun _ h => by cases h) (fun _ h => by cases h) (fun h => by cases h) (fun h => by cases h) hk0 hk1 hkk0 hkk1 (by simp [refKind]) q1 q2 q3
    (by rw [nn sp q1, nn n q3, arrV_size]; omega)
    (by rw [nn dp q2, nn n q3, arrV_size]; omega)
    (fun vm₁ _ i hi => by
      have e : (arrV (E.2.2.1 0) (ax_SH k0).2 (fun j => .int (M.2.1 k0 j))).slots.getD (sp.toNatClampNeg + i) .null = .int (M.2.1 k0 (sp.toNatClampNeg + i)) := by
        rw [Array.getD_eq_getD_getElem?, arrV_read _ _ (by omega)]
        rfl
      rw [e]
      exact ⟨rfl, trivial⟩)
    (g := F0 m pc la (.int n :: .int dp :: .ref (ax_ad E k) :: .int sp :: .ref (ax_ad E k0) :: st.map (ax_cv E))) rfl (by show la.size = _; rw [h4.1, hml]) (rest := st.map (ax_cv E)) rfl (by rw [hb]; exact hdg) (by omega) (by show 2 * 0 + _ + (5 + 2 + 11) ≤ _; omega)
  have e2 : copied (arrV (E.2.2.1 0) (ax_SH k0).2 (fun j => .int (M.2.1 k0 j))) (arrV (E.2.2.1 0) (ax_SH k).2 (fun j => .int (M.2.1 k j))) sp dp n = arrV (E.2.2.1 0) (ax_SH k).2 (fun j => .int (va_cpy (M.2.1 k0) (M.2.1 k) sp.toNatClampNeg dp.toNatClampNeg n.toNatClampNeg j)) := va_copied (fun z => .int z) _ _ _ _ q4
  rw [e2] at X' step
  generalize hcell : arrV (E.2.2.1 0) (ax_SH k).2 (fun j => .int (va_cpy (M.2.1 k0) (M.2.1 k) sp.toNatClampNeg dp.toNatClampNeg n.toNatClampNeg j)) = cell at X' step
  have hlt : ax_ad E k < H.size := (Array.getElem?_eq_some_iff.mp hc1).1
  have hheap : ((T.setVm vm').setCell (ax_ad E k) cell).heap = H.setIfInBounds (ax_ad E k) cell := by rw [← hT]; rfl
  have oq : ∀ q : Nat, q ≠ ax_ad E k → (H.setIfInBounds (ax_ad E k) cell)[q]? = H[q]? := fun q hq => by simp [Array.getElem?_setIfInBounds, Ne.symm hq]
  have hz1 : (H.setIfInBounds (ax_ad E k) cell).size = H.size := by simp
  obtain ⟨t, a1, b1⟩ := kk (H.setIfInBounds (ax_ad E k) cell) _ la (h1.set g1 rfl ax_ur_off hz1 oq (ax_arrC1 t1 (Or.inl rfl) (by rw [← hcell]; simp [Array.getElem?_setIfInBounds, hlt]))) (ax_X_put hok g1 oq h2) ⟨by rw [hz1]; exact h3.1, fun q r1 r2 => by
      rw [oq q (fun e => r2 (by rw [e]; exact ax_ad_A g1))]
      exact h3.2.1 q r1 r2, fun q hq => by
      rcases List.mem_append.mp hq with h | h
      · exact h3.2.2 q h
      · obtain ⟨z, -, hz⟩ := List.mem_map.mp h
        rw [← hz]
        exact ax_ad_A g1⟩ h4 _ hheap X'
  exact ⟨t, step t a1, b1⟩
/-- a new row of nothing -/
def ax_nw (M : ax_M) (n : Nat) : ax_M := (some (ax_sc n), ax_ur M.2.1 n (fun _ => 0), ax_ur M.2.2.1 n (fun _ => 0), ax_ur M.2.2.2 n (fun _ => 0))
theorem ax_nw_H {n : Nat} {H H1 : Heap} (hM : M.1 = some n) (h1 : ax_H E M s H) (hz : H1.size = H.size + 1) (oq : ∀ q, q < H.size → H1[q]? = H[q]?) (hc : ax_C1 E (ax_nw M n) n H1) : ax_H E (ax_nw M n) s H1 := by
  obtain ⟨a, b, c0⟩ := h1
  obtain ⟨h8, hs⟩ := a n hM
  refine ⟨fun n' q => ?_, fun k hk hlt => ?_, c0.kept (fun k' q => ?_) (fun k' q => ?_) (fun q hq => oq q (by omega))⟩
  · cases q
    have hp := ax_pm_8 h8
    exact ⟨ax_sc_8 h8, by rw [hz, hs, ax_pm_sc]; omega⟩
  · have hkn : ax_pm k < ax_pm (ax_sc n) := hlt _ rfl
    rw [ax_pm_sc] at hkn
    have hp := ax_pm_8 hk
    have hp2 := ax_pm_8 h8
    by_cases hkk : k = n
    · subst hkk; exact hc
    · have hne : ax_pm k ≠ ax_pm n := fun q => hkk (ax_pm_inj q)
      refine (b k hk (fun m' q => by rw [hM] at q; cases q; omega)).kept (ax_ur_k _ _ hkk) (ax_ur_k _ _ hkk) (ax_ur_k _ _ hkk) (oq _ ?_)
      rw [ax_ad_8 hk, hs]; omega
  · exact ax_ur_k _ _ (by omega)
  · exact ax_ur_k _ _ (by omega)
theorem ax_kdo {ci : Nat} {r : vw_C} (h : ax_cl[ci]? = some r) : ∀ j, j < r.2.2 → ax_kd ci j ≤ 2 := by
  match ci, h with
  | 0, h => cases h; decide +kernel
  | 1, h => cases h; decide +kernel
  | 2, h => cases h; decide +kernel
  | 3, h => cases h; decide +kernel
  | 4, h => cases h; decide +kernel
  | 5, h => cases h; decide +kernel
  | 6, h => cases h; decide +kernel
  | 7, h => cases h; decide +kernel
  | 8, h => cases h; decide +kernel
  | 9, h => cases h; decide +kernel
  | 10, h => cases h; decide +kernel
  | 11, h => cases h; decide +kernel
  | c + 12, h => simp [ax_cl] at h
theorem ax_g_new (X : ax_X E p R s m args meth c cc own nL d) {idx ci n r3 : Nat} {a1 a2 a3 : Nat × Nat} {r : vw_C} (hq : ax_NL[r3]? = some (own, idx, ci, a1, a2, a3)) (hr : ax_cl[ci]? = some r) (hM : M.1 = some n) (ht : (ax_SH n).1 = ci + 4) (hfit : kc + 1 ≤ R.cells ∧ ks + r.2.2 ≤ R.slots) (hdg : decode cc pc = .ok (.new idx, 3))
    (kk : ax_G E p l e R s m args below meth c nL Q (pc + 3) ls (.inr (.inr n) :: st) (ax_nw M n) (kc + 1) (ks + r.2.2)) : ax_G E p l e R s m args below meth c nL Q pc ls st M kc ks := by
  intro H locs la h1 h2 h3 h4
  obtain ⟨hx, hb, hml, hown, hts, hK, hok, hlk, hB, hR⟩ := id X
  have hf := List.all_eq_true.mp ax_NL_ok _ (List.mem_of_getElem? hq)
  unfold ax_nc at hf
  dsimp only at hf
  rw [hr] at hf
  simp only [Bool.and_eq_true] at hf
  obtain ⟨⟨w1, w2⟩, w3⟩ := hf
  obtain ⟨h8, hs⟩ := h1.1 n hM
  have hKn := hK.1 ci _ hr
  have had : ax_ad E n = H.size := by rw [ax_ad_8 h8, hs]
  refine W.newcK hx hb hown (hts _ (ax_wk_mem w1)) (hts _ (ax_wk_mem w2)) (hts _ (ax_wk_mem w3)) rfl hdg hfit.1 hfit.2 hKn.2.1 rfl fun H1 kC hkC e1 z1 o1 => ?_
  have k1 := kk H1 locs la (ax_nw_H hM h1 z1 o1 ⟨fun q => by rw [ht] at q; omega, fun q => by rw [ht] at q; omega, fun q => by rw [ht] at q; omega, fun c' q => ?_⟩) (hok.2.1 _ _ _ (fun q hq => o1 q (by omega)) h2) ⟨Nat.le_trans h3.1 (by omega), fun q q1 q2 => (o1 q (Nat.lt_of_lt_of_le q1 h3.1)).trans (h3.2.1 q q1 q2), h3.2.2⟩ h4
  · have e2 : ((.inr (.inr n) : ax_V) :: st).map (ax_cv E) = .ref H.size :: st.map (ax_cv E) := by
      show ax_rv E n :: _ = _
      rw [ax_rv_8 h8, had]
    rw [e2] at k1
    exact k1
  · have hc : c' = ci := by rw [ht] at q; omega
    subst hc
    refine ⟨r, hr, (u_born (ax_ty c') hts (ax_lay hr) hKn hkC (by rw [had]; exact e1) (ax_tyo hr)).to (fun j hj => ?_)⟩
    have hkd := ax_kdo hr j hj
    unfold ax_fv ax_nw
    simp only [ax_ur_s]
    unfold ax_kd at hkd ⊢
    cases hty : ax_ty c' j
    all_goals simp only [hty] at hkd ⊢
    all_goals first | rfl | (exfalso; omega)
theorem ax_g_newa (X : ax_X E p R s m args meth c cc own nL d) {n t : Nat} {x : Int32} {at_ : ArrayType} {a1 : Nat × Nat} (w1 : ax_wk a1 (.arrayClass (newarray.typeOf at_)) = true) (hat : (t = 0 ∧ at_ = .int) ∨ (t = 1 ∧ at_ = .boolean) ∨ (t = 2 ∧ at_ = .long)) (hM : M.1 = some n) (ht : ax_SH n = (t, x.toNatClampNeg)) (hx0 : ¬ x < 0) (hle : x.toNatClampNeg ≤ 1000) (hfit : kc + 1 ≤ R.cells ∧ ks + x.toNatClampNeg ≤ R.slots) (hdg : decode cc pc = .ok (.newarray at_, 2))
    (kk : ax_G E p l e R s m args below meth c nL Q (pc + 2) ls (.inr (.inr n) :: st) (ax_nw M n) (kc + 1) (ks + x.toNatClampNeg)) : ax_G E p l e R s m args below meth c nL Q pc ls (.inl x :: st) M kc ks := by
  intro H locs la h1 h2 h3 h4
  obtain ⟨hx, hb, hml, hown, hts, hK, hok, hlk, hB, hR⟩ := id X
  obtain ⟨h8, hs⟩ := h1.1 n hM
  have had : ax_ad E n = H.size := by rw [ax_ad_8 h8, hs]
  have hcb : componentBytes (newarray.typeOf at_) ≤ 8 := by
    rcases hat with ⟨-, h⟩ | ⟨-, h⟩ | ⟨-, h⟩ <;> subst h <;> decide
  refine va_newaK hx hb (hts _ (ax_wk_mem w1)) rfl hdg rfl hx0 rfl (Nat.le_trans (Nat.mul_le_mul hle hcb) (by decide)) hfit.1 hfit.2 rfl fun H1 cA e1 z1 o1 hAr hNm => ?_
  have k1 := kk H1 locs la (ax_nw_H hM h1 z1 o1 ?_) (hok.2.1 _ _ _ (fun q hq => o1 q (by omega)) h2) ⟨Nat.le_trans h3.1 (by omega), fun q q1 q2 => (o1 q (Nat.lt_of_lt_of_le q1 h3.1)).trans (h3.2.1 q q1 q2), h3.2.2⟩ h4
  · have e2 : ((.inr (.inr n) : ax_V) :: st).map (ax_cv E) = .ref H.size :: st.map (ax_cv E) := by
      show ax_rv E n :: _ = _
      rw [ax_rv_8 h8, had]
    rw [e2] at k1
    exact k1
  · rcases hat with ⟨ht0, h⟩ | ⟨ht0, h⟩ | ⟨ht0, h⟩ <;> subst ht0 <;> subst h
    · have hcA : cA = E.2.2.1 0 := Option.some.inj (hNm.symm.trans (hK.2 0 _ rfl).2)
      refine ⟨fun q => ?_, fun q => by rw [ht] at q; simp at q, fun q => by rw [ht] at q; simp at q, fun c' q => by rw [ht] at q; simp at q⟩
      rw [had, e1, hcA, ht]
      unfold ax_nw
      simp only [ax_ur_s]
      rfl
    · have hcA : cA = E.2.2.1 1 := Option.some.inj (hNm.symm.trans (hK.2 1 _ rfl).2)
      refine ⟨fun q => by rw [ht] at q; simp at q, fun q => ?_, fun q => by rw [ht] at q; simp at q, fun c' q => by rw [ht] at q; simp at q⟩
      rw [had, e1, hcA, ht]
      unfold ax_nw
      simp only [ax_ur_s]
      rfl
    · have hcA : cA = E.2.2.1 2 := Option.some.inj (hNm.symm.trans (hK.2 2 _ rfl).2)
      refine ⟨fun q => by rw [ht] at q; simp at q, fun q => by rw [ht] at q; simp at q, fun q => ?_, fun c' q => by rw [ht] at q; simp at q⟩
      rw [had, e1, hcA, ht]
      unfold ax_nw
      simp only [ax_ur_s]
      rfl
end AXC
