/-! NoseCensus.person throws -/
def th_N (U : State) : Prop := ∃ c1 c2 : ClassId, U.vm.findClass "java/util/NoSuchElementException" = some c1 ∧ U.vm.findClass "java/lang/IndexOutOfBoundsException" = some c2 ∧ U.vm.assignable c1 c2 = false
def th_ok (E : ax_E) : Prop := ∃ (u0 sen : RefV) (q1 q2 : Nat), ∀ (U : State) (H : Heap), E.2.2.2.2.2 U H → th_F (ax_A E) u0 sen U H ∧ vk_R "NoseCensus" 141 "no such person" q1 U ∧ vk_R "NoseCensus" 166 "no such what" q2 U ∧ th_N U
theorem ax_wpG {E : ax_E} {p : Program} {l : Launch} {e : Env} {R : Room} {s : State} {m : MethodId} {args : Array Value} {below : List Frame} {meth : Method} {c : Code} {cc : ByteArray} {own nL d : Nat} {Q : State → Prop} (X : ax_X E p R s m args meth c cc own nL d) {Ret : Option ax_V → ax_M → Prop} {rk : Nat} {ini : Bool} (hI : ini = true → meth.name = "<init>")
    (hRi : ∀ (pc : Nat) (ls : ax_L) (x : Int32) (M : ax_M) (kc ks : Nat), (rk = 0 ∨ rk = 1) → (rk = 1 → x = 0 ∨ x = 1) → (kc ≤ R.cells ∧ ks ≤ R.slots) → Ret (some (.inl x)) M → decode cc pc = .ok (.ireturn, 1) → ax_G E p l e R s m args below meth c nL Q pc ls [.inl x] M kc ks)
    (hRl : ∀ (pc : Nat) (ls : ax_L) (x : Int64) (M : ax_M) (kc ks : Nat), rk = 2 → (kc ≤ R.cells ∧ ks ≤ R.slots) → Ret (some (.inr (.inl x))) M → decode cc pc = .ok (.lreturn, 1) → ax_G E p l e R s m args below meth c nL Q pc ls [.inr (.inl x)] M kc ks)
    (hRv : ∀ (pc : Nat) (ls : ax_L) (M : ax_M) (kc ks : Nat), rk = 3 → (kc ≤ R.cells ∧ ks ≤ R.slots) → Ret none M → decode cc pc = .ok (.return_, 1) → ax_G E p l e R s m args below meth c nL Q pc ls [] M kc ks) :
    ∀ (is : List ax_I) {pc : Nat} {ls : ax_L} {st : List ax_V} {M : ax_M} {kc ks : Nat}, ax_ckl own nL rk ini cc is pc = true → ax_wp (ax_C E l d) (ax_G E p l e R s m args below meth c nL Q) Ret rk R.cells R.slots is pc ls st M kc ks → ax_G E p l e R s m args below meth c nL Q pc ls st M kc ks
  | [], pc, ls, st, M, kc, ks, _, h => h
  | en :: is, pc, ls, st, M, kc, ks, hck, h => by
    have hck' : (ax_ck own nL rk ini cc pc en && ax_ckl own nL rk ini cc is (pc + en.2.1)) = true := hck
    rw [Bool.and_eq_true] at hck'
    exact ax_stp_ok X (fun _ _ _ _ _ _ q => q) hI hRi hRl hRv en hck'.1 (fun ls st M kc ks q => ax_wpG X hI hRi hRl hRv is hck'.2 q) h
theorem th_H {E : ax_E} {M : ax_M} {U : State} {H H1 : Heap} (hn : M.1 = none) (h : ax_H E M U H) (hq : ∀ q : Nat, q < H.size → H1[q]? = H[q]?) (hB : E.2.2.2.1 ≤ H.size) : ax_H E M U H1 := by
  obtain ⟨-, h2, h3⟩ := h
  refine ⟨fun n q => (nomatch hn.symm.trans q), fun k h8 _ => ?_, h3.kept (fun _ _ => rfl) (fun _ _ => rfl) (fun q hq' => hq q (Nat.lt_of_lt_of_le hq' hB))⟩
  obtain ⟨a0, a1, a2, a3⟩ := h2 k h8 (fun n q => (nomatch hn.symm.trans q))
  have lt : ∀ x : Cell, H[ax_ad E k]? = some x → H1[ax_ad E k]? = some x := fun x hx => by rw [hq _ (Array.getElem?_eq_some_iff.mp hx).1]; exact hx
  refine ⟨fun q => lt _ (a0 q), fun q => lt _ (a1 q), fun q => lt _ (a2 q), fun c q => ?_⟩
  obtain ⟨r, hr, ho⟩ := a3 c q
  obtain ⟨cell, hc, -⟩ := id ho
  exact ⟨r, hr, ho.kept (hq _ (Array.getElem?_eq_some_iff.mp hc).1)⟩
def th_Q (E : ax_E) (M : ax_M) (cls : String) : Array Value → State → Outcome → State → Prop := fun _ st o t => ∃ (x : Addr) (ce : Cell), o = .threw x ∧ t.heap[x]? = some ce ∧ ce.vm = .none ∧ st.vm.findClass cls = some ce.cls ∧ st.WarmedH t.vm ∧ (∃ L, st.sameButNew ({ t with vm := st.vm } : State) L 1 6 ∧ ∀ q ∈ L, ax_A E q.base) ∧ ax_S E M t ∧ va_F (ax_A E) st t
def th_Z (E : ax_E) (M : ax_M) (cls : String) (below : List Frame) (args : Array Value) (s : State) : State → Prop := fun t => ∃ o, t.status = .running ∧ Ended t below o ∧ th_Q E M cls args s o t
section THP
variable {E : ax_E} {p : Program} {l : Launch} {e : Env} {s : State} {m : MethodId} {args : Array Value} {below : List Frame} {meth : Method} {c : Code} {d : Nat}
theorem th_tail {M : ax_M} {cls : String} {b1 : ByteArray} {pc iN iS ic i1 q1 : Nat} {tx : String} {u0 sen : RefV} {ls : ax_L} (hM : M.1 = none) (X : ax_X E p (ax_rm (d + 6) 1 6) s m args meth c (ax_mu m_Face_person).2.1 10 3 (d + 5)) (hadm : e.platform.stackTraces = false) (hex : c.exceptionTable.isEmpty = true) (hcls : Bundle.fit cls = true)
    (hd0 : decode b1 0 = .ok (.aload_n 0, 1)) (hd1 : decode b1 1 = .ok (.aload_n 1, 1)) (hd2 : decode b1 2 = .ok (.invokespecial i1, 3)) (hd5 : decode b1 5 = .ok (.return_, 1))
    (hP : ∀ w ∈ Bundle.passSAtoms cls "java/lang/RuntimeException" i1 b1, w ∈ ax_gw ∨ th_dl w) (hO : ∀ w ∈ th_own "NoseCensus" ic cls, w ∈ ax_gw) (hk1 : Cond.classLink "NoseCensus" iN cls ∈ ax_gw) (hk2 : Cond.instantiable cls 6 ∈ ax_gw) (hk3 : Cond.initialized cls ∈ ax_gw)
    (hX : ∀ (U : State) (H : Heap), E.2.2.2.2.2 U H → th_F (ax_A E) u0 sen U H ∧ vk_R "NoseCensus" iS tx q1 U)
    (g0 : decode (ax_mu m_Face_person).2.1 pc = .ok (.new iN, 3)) (g3 : decode (ax_mu m_Face_person).2.1 (pc + 3) = .ok (.dup, 1)) (g4 : decode (ax_mu m_Face_person).2.1 (pc + 3 + 1) = .ok (.ldc iS, 2)) (g6 : decode (ax_mu m_Face_person).2.1 (pc + 3 + 1 + 2) = .ok (.invokespecial ic, 3)) (g9 : decode (ax_mu m_Face_person).2.1 (pc + 3 + 1 + 2 + 3) = .ok (.athrow, 1))
    (hs0 : E.2.2.2.2.2 s s.heap) : ax_G E p l e (ax_rm (d + 6) 1 6) s m args below meth c 3 (th_Z E M cls below args s) pc ls [] M 0 0 := by
  intro H locs la h1 h2 h3 h4
  obtain ⟨hx, hb, hml, hown, hts, hK, hok, hlk, hB, hR⟩ := id X
  have hown' : s.vm.findClass "NoseCensus" = some m.cls := hown
  obtain ⟨cX, kX, hfc, hkX, -⟩ := Cond.instantiable_spec (hts _ hk2)
  refine W.newcK hx hb (own := "NoseCensus") (C := cls) (n := 6) hown' (hts _ hk1) (hts _ hk2) (hts _ hk3) (g := F0 m pc la []) rfl g0 (Nat.le_refl 1) (Nat.le_refl 6) hfc rfl (fun H' kC hk hcell hsz hq => ?_)
  cases Option.some.inj (hkX.symm.trans hk)
  have hHs : s.heap.size ≤ H.size := h3.1
  refine lv_dup hx hb g3 rfl ?_
  refine va_ldcS hx hb hown' ((hX s H h2).2) g4 ?_
  intro T hT XT
  have hFH : th_F (ax_A E) u0 sen s T.heap := by
    rw [hT]
    refine th_F.kept (hX s H h2).1 (fun q hq' => hq q ?_)
    have : ¬ E.2.2.2.1 ≤ q := hq'
    omega
  obtain ⟨vm', ce, c1, c2, XU, st⟩ := th_ctor (A := ax_A E) (u0 := u0) (sen := sen) XT hx hadm (th_a hts (hX s s.heap hs0).1) (fun w hw => hts w (th_s w hw)) (own := "NoseCensus") (cls := cls) (ic := ic) (i1 := i1) (b1 := b1) hown' hcls hd0 hd1 hd2 hd5 (fun w hw => th_b hts (hP w hw)) (fun w hw => th_b hts (th_c w hw)) (fun w hw => hts w (hO w hw)) hFH
    (a := H.size) hfc hkX (by rw [hT]; exact hcell) hHs (Nat.le_trans hB hHs) (msg := .ref q1) rfl (g := F0 m (pc + 3 + 1 + 2) la [.ref q1, .ref H.size, .ref H.size]) rfl (by rw [hml]; exact h4.1) (rest := []) rfl (by rw [hb]; exact g6) (by show 5 < d + 6 + 1; omega) (by show 2 * 0 + 1 + 81 ≤ 12 + 40 * (d + 6); omega)
  obtain ⟨hwalk, hrun, hended, hWU, hsame⟩ := XU.athrowLeaves hx (g := F0 m (pc + 3 + 1 + 2 + 3) la [.ref H.size]) rfl rfl rfl (fun x hx' => by
    have h0 : c.exceptionTable.toList = [] := by simpa using hex
    rw [h0] at hx'; cases hx') (a := H.size) (rest := []) rfl (by rw [hb]; exact g9) hlk
  have hlt : H.size < (T.setVm vm').heap.size := by show H.size < T.heap.size; rw [hT, hsz]; omega
  have hU := heapAt_setCell_self (s := T.setVm vm') ce hlt
  have hne : ∀ q : Nat, q < H.size → ((T.setVm vm').setCell H.size ce).heap[q]? = H[q]? := fun q hq' => by
    rw [heapAt_setCell_ne _ (Nat.ne_of_gt hq')]
    show T.heap[q]? = H[q]?
    rw [hT]; exact hq q hq'
  refine ⟨_, st _ hwalk, .threw H.size, hrun, hended, H.size, ce, rfl, hU, c2, by rw [c1]; exact hfc, hWU, ⟨locs, hsame, h3.2.2⟩, ⟨?_, va_K.moved hWU.alike hK, ?_, ?_⟩, ?_, ?_⟩
  · exact (th_H hM h1 hne (Nat.le_trans hB hHs)).moved hWU.alike
  · exact hok.1 _ _ _ hWU (hok.2.1 s H _ (fun q hq' => hne q (Nat.lt_of_lt_of_le hq' (Nat.le_trans hB hHs))) h2)
  · show E.2.2.2.1 ≤ ((T.setVm vm').setCell H.size ce).heap.size
    rw [size_setCell]
    show E.2.2.2.1 ≤ T.heap.size
    rw [hT, hsz]; omega
  · show s.heap.size ≤ ((T.setVm vm').setCell H.size ce).heap.size
    rw [size_setCell]
    show s.heap.size ≤ T.heap.size
    rw [hT, hsz]; omega
  · intro q q1 q2
    show ((T.setVm vm').setCell H.size ce).heap[q]? = _
    rw [hne q (by omega)]
    exact h3.2.1 q q1 q2
theorem th_intro {M : ax_M} {cls : String} {as : List ax_V} (hok : ax_Xok E) (hlen : ax_sz as ≤ 3)
    (body : ∀ (p : Program) (e : Env) (s : State) (m : MethodId) (args : Array Value) (below : List Frame) (meth : Method) (c : Code), l.admits e → ax_X E p (ax_rm (d + 6) 1 6) s m args meth c (ax_mu m_Face_person).2.1 10 3 (d + 5) → c.exceptionTable.isEmpty = true → E.2.2.2.2.2 s s.heap →
      ax_G E p l e (ax_rm (d + 6) 1 6) s m args below meth c 3 (th_Z E M cls below args s) 0 (ax_ent as ++ List.replicate (3 - ax_sz as) none) [] M 0 0) :
    MetFree l (ax_mu m_Face_person).1 (headSpec (ax_wy (ax_mu m_Face_person)) (ax_rm (d + 6) 1 6)) (va_Pc (as.map (ax_cv E)) (ax_S E M)) (fun _ _ _ _ _ => True) (th_Q E M cls) := by
  refine MetFree.of_bodyS (code := (ax_mu m_Face_person).2.1) (maxLocals := 3) (ret := some .int) (by decide) ?_ ?_
  · intro args s m h hn
    obtain ⟨meth, c, h1, h2, h3, h4, h5, h6, -, -⟩ := Cond.code_spec hn (atoms_spec (ws := ax_wy (ax_mu m_Face_person)) h _ List.mem_cons_self)
    exact ⟨meth, c, h1, h2, h3, h4, h5, h6⟩
  · intro p e s m args below meth c s₁ B hml hP _
    obtain ⟨rfl, hH, hK, hX, hB⟩ := hP
    have hh0 : s₁.heap = s.heap := by rw [B.state]; rfl
    have hts := atoms_spec (ws := ax_wy (ax_mu m_Face_person)) B.pre
    have hown' : s.vm.findClass (ax_cn.getD 10 "") = some m.cls := findClass_of_methodNamed B.named
    have hl := lv_entry (as.map (ax_cv E)) (n := 3) (by rw [ax_sl_len]; exact hlen)
    have g := body p e s m _ below meth c B.admits ⟨B.exec, B.bytes, hml, hown', fun w hw => hts w (List.mem_cons_of_mem _ hw), hK, hok, B.notSynchronized, hB, by show d + 5 + 2 ≤ d + 6 + 1; omega, by show 52 + 40 * (d + 5) ≤ 12 + 40 * (d + 6); omega⟩ (B.noHandlers (hts _ List.mem_cons_self)) hX s.heap [] _ hH hX va_S.rf (ax_lv_nones ⟨hl.1, hl.2.1, fun q hq => hl.2.2 q (ax_ent_sub as 0 q hq)⟩)
    obtain ⟨t, a1, o, b1, b2, b3⟩ := g s₁ hh0 (Stand.of_body B)
    rw [lg_entry_eq]
    exact ⟨t, o, a1, b1, b2, b3⟩
end THP
