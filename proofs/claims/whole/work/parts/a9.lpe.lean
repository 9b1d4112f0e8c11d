/-! the law's person: what is thrown is caught -/
abbrev yFp : MethodName := ⟨"NoseCensus", "person", "(II)I"⟩
theorem lp_w : ax_wk (5, 188) (.methodLink "NoseCensusLaw" 7 yFp) = true ∧ ax_wk (5, 189) (.instanceMethod yFp) = true ∧ ax_wk (5, 190) (.selects "NoseCensus" yFp yFp) = true ∧ ax_wk (5, 191) (.code yFp (ax_mu m_Face_person).2.1 3 (some .int)) = true ∧ ax_wk (1, 1) (.initialized "NoseCensus") = true := by decide +kernel
theorem vm_asg {vm : Vm} {c : ClassId} : vm.assignable c c = true := by
  show vm.assignableAux (255 + 1) c c = true
  rw [Vm.assignableAux]
  simp
theorem lp_d5 : decode method_3_code 5 = .ok (.invokevirtual 7, 3) := by decide +kernel
section LPE
variable {E : ax_E} {p : Program} {l : Launch} {e : Env} {s : State} {m : MethodId} {args : Array Value} {below : List Frame} {meth : Method} {c : Code} {d : Nat}
theorem lp_call {M : ax_M} {cls : String} {x n : Int32} {Q : State → Prop} {la : Array Slot} {H : Heap} {locs : List Loc} (hM1 : M.1 = none) (X : ax_X E p (ax_rm (d + 1) 1 6) s m args meth c method_3_code 12 5 d)
    (hM : MetFree l (ax_mu m_Face_person).1 (headSpec (ax_wy (ax_mu m_Face_person)) (ax_rm d 1 6)) (va_Pc (([.inr (.inr 8), .inl x, .inl n] : List ax_V).map (ax_cv E)) (ax_S E M)) (fun _ _ _ _ _ => True) (th_Q E M cls))
    (h1 : ax_H E M s H) (h2 : E.2.2.2.2.2 s H) (h3 : va_S (ax_A E) s.heap H locs) (hla : la.size = 5)
    (kk : ∀ (T' : State) (x : Addr) (ce : Cell) (locs' : List Loc), Stand p l e (ax_rm (d + 1) 1 6) s m args below meth c T' locs' 1 6 → T'.heap[x]? = some ce → ce.vm = .none → s.vm.findClass cls = some ce.cls → ax_H E M s T'.heap → E.2.2.2.2.2 s T'.heap → va_S (ax_A E) s.heap T'.heap locs' → ∃ t, Steps p.tables e below ((T'.setTop (F0 m 5 la [.int 0, .ref (ax_ad E 165)])).pushFrame (.throwing x)) t ∧ Q t) :
    W p l e (ax_rm (d + 1) 1 6) s m args below meth c H locs 0 0 Q (F0 m 5 la [.int n, .int x, .ref (ax_ad E 8), .int 0, .ref (ax_ad E 165)]) := by
  intro T hT XT
  obtain ⟨hx, hb, hml, hown, hts, hK, hok, hlk, hB, hR⟩ := id X
  have hown' : s.vm.findClass "NoseCensusLaw" = some m.cls := hown
  have hlink := hts _ (ax_wk_mem lp_w.1)
  have hinst := hts _ (ax_wk_mem lp_w.2.1)
  have hsel := hts _ (ax_wk_mem lp_w.2.2.1)
  have hcode := hts _ (ax_wk_mem lp_w.2.2.2.1)
  obtain ⟨r, hr, cell, w1, w2, w3, w4⟩ := (h1.2.1 8 (by decide) (fun n q => nomatch hM1.symm.trans q)).2.2.2 10 rfl
  obtain ⟨hS, hfc, kC, hkC, hkind⟩ := hK.1 10 _ hr
  have hcls : s.vm.findClass "NoseCensus" = some cell.cls := by
    rw [w2]
    have := ax_cn_cl hr
    rw [show (ax_cn.getD 10 "") = "NoseCensus" from rfl] at this
    rw [this]; exact hfc
  obtain ⟨mk, methM, hnamed, hmethM, hstM, habM⟩ := Cond.instanceMethod_spec hinst
  obtain ⟨methM', cM, hmethM', hcodeM, -, hlocM, -, -, -, hsigM⟩ := Cond.code_spec hnamed hcode
  cases hmethM.symm.trans hmethM'
  obtain ⟨c2, r2, m2, q1, q2, q3, q4, kP, hkP, hkPi⟩ := Cond.selects_spec hsel
  cases hcls.symm.trans q1
  cases (State.methodFound?_of_named hnamed (by decide)).symm.trans q2
  cases hnamed.symm.trans q3
  have hselP : selectMethod e.platform s.vm cell.cls mk = .method mk := by rw [Launch.admits_selectMethod XT.admits]; exact q4
  have hlenM : ([Value.int x, Value.int n] : List Value).length = methM.sig.parameters.length := by
    have h0 : (parseMethodDescriptor yFp.desc).map (fun d => d.parameters.length) = some 2 := by decide +kernel
    rw [hsigM] at h0
    exact (Option.some.inj h0).symm
  obtain ⟨vm₁, X₁, hstep₁⟩ := XT.invokevirtual hx hown' hlink hnamed hmethM hstM hkP hkPi (by decide) (a := ax_ad E 8) (cell := cell) (by rw [hT]; exact w1)
    (fun z h => by rw [w3] at h; cases h) hselP hmethM habM hkP hkPi (g := F0 m 5 la [.int n, .int x, .ref (ax_ad E 8), .int 0, .ref (ax_ad E 165)]) rfl (argsL := [.int x, .int n]) (rest := [.int 0, .ref (ax_ad E 165)]) hlenM rfl (by rw [hb]; exact lp_d5)
  have W1 := X₁.warmed
  have hnU : (T.setVm vm₁).methodNamed? yFp = some mk := X₁.named hnamed
  have hwU : ∀ w ∈ ax_gw, ∀ a' : Array Value, w.before a' (T.setVm vm₁) = true := fun w hw a' => word_at W1 (good_of_word (List.mem_filter.mp hw).2) (hts w hw)
  obtain ⟨kY, hkY, -⟩ := className_of_methodNamed hnU
  have hiY : kY.init = .initialized := Cond.initialized_spec (findClass_of_methodNamed hnU) hkY (hwU _ (ax_wk_mem lp_w.2.2.2.2) #[])
  obtain ⟨methY, cY, hmY, hcY, -, hlY, -⟩ := Cond.code_spec hnU (hwU _ (ax_wk_mem lp_w.2.2.2.1) #[])
  have hA : At (T.setVm vm₁) m c below := X₁.here
  have hsz : (F0 m 5 la [.int 0, .ref (ax_ad E 165)]).locals.size = c.maxLocals := by rw [hml]; exact hla
  have hdg : decode c.code 5 = .ok (.invokevirtual 7, 3) := by rw [hb]; exact lp_d5
  have happ : (headSpec (ax_wy (ax_mu m_Face_person)) (ax_rm d 1 6)).appliesLoose yFp e.platform ((T.setVm vm₁).calling (F0 m 5 la [.int 0, .ref (ax_ad E 165)]) mk #[.ref (ax_ad E 8), .int x, .int n]) = true :=
    Spec.appliesLoose_calling (g := F0 m 5 la [.int 0, .ref (ax_ad E 165)]) hA hdg hnU hkY hiY
      (X₁.room_calling (g := F0 m 5 la [.int 0, .ref (ax_ad E 165)]) (R' := ax_rm d 1 6) hsz hmY hcY (by show d + 1 + 1 ≤ d + 1 + 1; omega) (by rw [hlY]; show 2 * 0 + (1 + (1 + 0)) + (3 + 11) + (12 + 40 * d) ≤ 12 + 40 * (d + 1); omega) (by show 0 + 1 ≤ 1; omega) (by show 0 + 6 ≤ 6; omega))
      (atoms_intro fun w hw => by
        rcases List.mem_cons.mp hw with h | h
        · subst h; exact hwU _ (ax_wk_mem lp_w.2.2.2.1) _
        · exact hwU w h _)
  have hPre : va_Pc (([.inr (.inr 8), .inl x, .inl n] : List ax_V).map (ax_cv E)) (ax_S E M) #[.ref (ax_ad E 8), .int x, .int n] ((T.setVm vm₁).calling (F0 m 5 la [.int 0, .ref (ax_ad E 165)]) mk #[.ref (ax_ad E 8), .int x, .int n]) := by
    refine ⟨rfl, ?_⟩
    exact ax_S_end X (M := M) h1 h2 h3 (t := (T.setVm vm₁).calling (F0 m 5 la [.int 0, .ref (ax_ad E 165)]) mk #[.ref (ax_ad E 8), .int x, .int n]) hT W1
  obtain ⟨mid, hmid⟩ := hA.above
  have hfr : ((T.setVm vm₁).setTop (F0 m 5 la [.int 0, .ref (ax_ad E 165)])).frames = (.java (F0 m 5 la [.int 0, .ref (ax_ad E 165)]) :: mid) ++ below := by rw [State.frames_setTop' _ hA.top, hmid]; rfl
  obtain ⟨o, s₂, hsteps, -, hend, hq⟩ := Steps.callFree hM p X₁.admits X₁.cas X₁.clock (acts := []) hfr happ hPre trivial
  rw [State.frames_setTop' _ hA.top, X₁.tail] at hend
  obtain ⟨xa, ce, rfl, t1, t2, t3, t4, ⟨L, t5, t6⟩, ⟨t7, t8, t9, t10⟩, t11, t12⟩ := hq
  obtain ⟨T', XT', hW', -, hteq⟩ := X₁.outOfThrown (g := F0 m 5 la [.int 0, .ref (ax_ad E 165)]) rfl hend t4 t5
  have eh : s₂.heap = T'.heap := by rw [hteq]; exact Stand.throwing_heap T' _ _
  have ev : s₂.vm = T'.vm := by rw [hteq]; exact Stand.throwing_vm T' _ _
  have hal : s₂.vm.Alike s.vm := by rw [ev]; exact XT'.warmed.alike.symm
  have hTh : T.heap = H := hT
  have p1 : s.vm.findClass cls = some ce.cls := by
    have e1 : (T.setVm vm₁).vm.findClass cls = s.vm.findClass cls := W1.alike.findClass cls none
    rw [← e1]; exact t3
  have hq0 : ∀ q : Nat, q < H.size → ¬ ax_A E q → T'.heap[q]? = H[q]? := fun q g1 g2 => by
    rw [← eh, t12 q (by show q < T.heap.size; rw [hTh]; exact g1) g2]
    show T.heap[q]? = _
    rw [hTh]
  have p2 : ax_H E M s T'.heap := by rw [← eh]; exact t7.moved hal
  have p3 : E.2.2.2.2.2 s T'.heap := hok.2.1 s H _ (fun q hq' => hq0 q (Nat.lt_of_lt_of_le hq' (Nat.le_trans hB h3.1)) (Nat.not_le_of_lt hq')) h2
  have p4 : va_S (ax_A E) s.heap T'.heap (locs ++ L) := by
    refine ⟨Nat.le_trans h3.1 (by rw [← eh, ← hTh]; exact t11), fun q g1 g2 => (hq0 q (Nat.lt_of_lt_of_le g1 h3.1) g2).trans (h3.2.1 q g1 g2), fun q hq' => ?_⟩
    rcases List.mem_append.mp hq' with h | h
    · exact h3.2.2 q h
    · exact t6 q h
  obtain ⟨tt, z1, z2⟩ := kk T' xa ce (locs ++ L) (by simpa using XT') (by rw [← eh]; exact t1) t2 p1 p2 p3 p4
  refine ⟨tt, hstep₁ _ (fun acts => ?_), z2⟩
  rw [doInvoke_state]
  exact hsteps.trans (by rw [hteq]; exact z1)
/-- the handlers' rows of the law's person -/
theorem lp_tab {x y : Nat} (hc : (c.exceptionTable.toList.map (fun h => (h.startPc, h.endPc, h.handlerPc, h.catchType))) = [(0, 10, 13, 13), (0, 10, 17, 15)]) : ∃ x1 x2 : ExceptionTableEntry, c.exceptionTable.toList = [x1, x2] ∧ (x1.startPc = 0 ∧ x1.endPc = 10 ∧ x1.handlerPc = 13 ∧ x1.catchType = 13) ∧ (x2.startPc = 0 ∧ x2.endPc = 10 ∧ x2.handlerPc = 17 ∧ x2.catchType = 15) := by
  generalize c.exceptionTable.toList = l at hc
  cases l with
  | nil => simp at hc
  | cons x1 l =>
    cases l with
    | nil => simp at hc
    | cons x2 l =>
      cases l with
      | nil =>
        simp only [List.map_cons, List.map_nil, List.cons.injEq, Prod.mk.injEq, and_true] at hc
        exact ⟨x1, x2, rfl, hc.1, hc.2⟩
      | cons x3 l => simp at hc
/-- the search ends at one of the two handlers -/
theorem lp_find {R : Room} {T : State} {locs : List Loc} {cells slots : Nat} (XT : Stand p l e R s m args below meth c T locs cells slots) (hown : s.vm.findClass "NoseCensusLaw" = some m.cls) (hk1 : (Cond.classLink "NoseCensusLaw" 13 "java/lang/IndexOutOfBoundsException").before args s = true) (hk2 : (Cond.classLink "NoseCensusLaw" 15 "java/util/NoSuchElementException").before args s = true) (hN : th_N s)
    (hc : (c.exceptionTable.toList.map (fun h => (h.startPc, h.endPc, h.handlerPc, h.catchType))) = [(0, 10, 13, 13), (0, 10, 17, 15)]) {la : Array Slot} {st : List Value} {x : Addr} {ce : Cell} (hx : T.heap[x]? = some ce) (hv : ce.vm = .none) {cls : String} (hcls : s.vm.findClass cls = some ce.cls) {pc : Nat} (hpc : (cls = "java/lang/IndexOutOfBoundsException" ∧ pc = 13) ∨ (cls = "java/util/NoSuchElementException" ∧ pc = 17)) :
    ∃ vm' : Vm, s.WarmedH vm' ∧ ∀ target, Steps p.tables e below ((T.setVm vm').setTop (F0 m pc la [.ref x])) target → Steps p.tables e below ((T.setTop (F0 m 5 la st)).pushFrame (.throwing x)) target := by
  have hpl : e.platform.magicAccessors = ({} : Platform).magicAccessors := by rw [XT.admits.platform]
  obtain ⟨x1, x2, htab, ⟨a1, a2, a3, a4⟩, ⟨b1, b2, b3, b4⟩⟩ := lp_tab (x := 0) (y := 0) hc
  obtain ⟨c1, hc1, hcl1⟩ := Cond.classLink_spec hown hk1 e.platform hpl
  obtain ⟨c2, hc2, hcl2⟩ := Cond.classLink_spec hown hk2 e.platform hpl
  obtain ⟨n1, n2, hn1, hn2, hn3⟩ := hN
  cases hn1.symm.trans hc2
  cases hn2.symm.trans hc1
  have hobj : ∀ k, ce.vm ≠ .statics k := fun k h => by rw [hv] at h; cases h
  have hcov1 : covers x1 5 = true := by simp [covers, a1, a2]
  have hcov2 : covers x2 5 = true := by simp [covers, b1, b2]
  have W0 := XT.warmed
  obtain ⟨dk, _, _, kt, hd, _, _, _, _, hkt, _, hopen⟩ := hcl1.here
  have hW1 : s.WarmedH (T.vm.noted m.cls 13 (.cls c1)) := W0.noted hd hopen (State.rightAt_cls hcl1)
  have hkce : ∃ k, s.vm.classes[ce.cls]? = some k := Vm.classAt_of_findClass hcls
  have mv : ∀ (v : Vm), s.WarmedH v → ∀ z, (∃ k, s.vm.classes[z]? = some k) → ∃ k, v.classes[z]? = some k := fun v hv z hz => by
    obtain ⟨k, hk⟩ := hz
    obtain ⟨k', hk', -⟩ := hv.alike.2.2 _ _ hk
    exact ⟨k', hk'⟩
  rcases hpc with ⟨rfl, rfl⟩ | ⟨rfl, rfl⟩
  · cases hc1.symm.trans hcls
    refine ⟨_, hW1, fun target ht => ?_⟩
    refine th_caught (g := F0 m 5 la st) (c := c) XT.here (pc := 13) (vm' := T.vm.noted m.cls 13 (.cls ce.cls)) (fun Q Z dd acts => ?_) ht
    rw [W.findHandler_eq (meth := meth) (code := c) XT.method' XT.code, htab]
    have g := th_go (e := e) (s := (T.setTop (F0 m 5 la st)).pushFrame (.throwing x)) (f := F0 m 5 la st) (a := x) (x := x1) (t := [x2]) (c := ce.cls) (cell := ce) (Q := Q) (Z := Z) (d := dd) (acts := acts) hcov1 (by rw [a4]; decide) (by rw [a4]; exact W0.classLinks hcl1) hx hobj (mv _ W0 _ hkce) (mv _ W0 _ hkce)
    rw [g, if_pos vm_asg, a3, a4]
    exact Iff.rfl
  · cases hc2.symm.trans hcls
    obtain ⟨dk2, _, _, kt2, hd2, _, _, _, _, hkt2, _, hopen2⟩ := hcl2.here
    have hW2 : s.WarmedH ((T.vm.noted m.cls 13 (.cls c1)).noted m.cls 15 (.cls ce.cls)) := hW1.noted hd2 hopen2 (State.rightAt_cls hcl2)
    refine ⟨_, hW2, fun target ht => ?_⟩
    refine th_caught (g := F0 m 5 la st) (c := c) XT.here (pc := 17) (vm' := (T.vm.noted m.cls 13 (.cls c1)).noted m.cls 15 (.cls ce.cls)) (fun Q Z dd acts => ?_) ht
    rw [W.findHandler_eq (meth := meth) (code := c) XT.method' XT.code, htab]
    have g := th_go (e := e) (s := (T.setTop (F0 m 5 la st)).pushFrame (.throwing x)) (f := F0 m 5 la st) (a := x) (x := x1) (t := [x2]) (c := c1) (cell := ce) (Q := Q) (Z := Z) (d := dd) (acts := acts) hcov1 (by rw [a4]; decide) (by rw [a4]; exact W0.classLinks hcl1) hx hobj (mv _ W0 _ hkce) (mv _ W0 _ (Vm.classAt_of_findClass hc1))
    have hno : ¬ ((T.setTop (F0 m 5 la st)).pushFrame (.throwing x)).vm.assignable ce.cls c1 = true := by
      have e0 : T.vm.assignable ce.cls c1 = s.vm.assignable ce.cls c1 := W0.alike.assignable _ _
      show ¬ T.vm.assignable ce.cls c1 = true
      rw [e0, hn3]; decide
    rw [g, if_neg hno, a4]
    have g2 := th_go (e := e) (s := ((T.setTop (F0 m 5 la st)).pushFrame (.throwing x)).setVm (T.vm.noted m.cls 13 (.cls c1))) (f := F0 m 5 la st) (a := x) (x := x2) (t := []) (c := ce.cls) (cell := ce) (Q := Q) (Z := Z) (d := dd) (acts := acts) hcov2 (by rw [b4]; decide) (by rw [b4]; exact hW1.classLinks hcl2) hx hobj (mv _ hW1 _ hkce) (mv _ hW1 _ hkce)
    refine Iff.trans g2 ?_
    rw [if_pos vm_asg, b3, b4]
    exact Iff.rfl
end LPE
