/-! the law: its rules -/
theorem lw_w : ax_wk (5, 183) (.methodLink "NoseCensusLaw" 39 yLp) = true ∧ ax_wk (5, 184) (.static yLp) = true ∧ ax_wk (5, 185) (.codeWith yLp method_3_code 5 (some .int) hLp) = true ∧ ax_wk (1, 0) (.initialized "NoseCensusLaw") = true := by decide +kernel
section LAW
variable {E : ax_E} {p : Program} {l : Launch} {e : Env} {s : State} {m : MethodId} {bb : Nat} {below : List Frame} {meth : Method} {c0 : Code} {d : Nat} {pc : Nat} {ls : ax_L} {st : List ax_V} {M : ax_M} {kc ks : Nat}
abbrev lG (E : ax_E) (p : Program) (l : Launch) (e : Env) (s : State) (m : MethodId) (bb : Nat) (below : List Frame) (meth : Method) (c0 : Code) : Nat → ax_L → List ax_V → ax_M → Nat → Nat → Prop := ax_G E p l e room_1 s m #[Value.ref bb] below meth c0 7 (lw_Z below #[Value.ref bb] s)
def lX (E : ax_E) (p : Program) (s : State) (m : MethodId) (bb : Nat) (meth : Method) (c0 : Code) : Prop := ax_X E p room_1 s m #[Value.ref bb] meth c0 code 12 7 2000 ∧ meth.sig.returnType = ret ∧ E.2.2.2.1 = s.heap.size
theorem lw_f (X : lX E p s m bb meth c0) {S : List (Nat × List ax_I)} (hk : S.all (fun q => ax_ckl 12 7 1 false code q.2 q.1) = true) {is : List ax_I} (hi : ax_find S pc = some is) (h : ax_wp (ax_C E l 2000) (lG E p l e s m bb below meth c0) (fun v _ => v = some (.inl 1)) 1 601024 7293033 is pc ls st M kc ks) : lG E p l e s m bb below meth c0 pc ls st M kc ks := by
  refine ax_wpG X.1 (rk := 1) (ini := false) (fun h => nomatch h) ?_ (fun _ _ _ _ _ _ h => nomatch h) (fun _ _ _ _ _ h => nomatch h) is (List.all_eq_true.mp hk _ (ax_find_mem hi)) h
  intro pc ls x M kc ks _ _ hk hq hd H locs la h1 h2 h3 h4
  obtain rfl : x = 1 := by simpa using hq
  refine W.widen (k := 601024) (n := 7293033) hk.1 hk.2 ?_
  exact W.forget (locs := []) (L := locs) (fun q hq' => by rw [← X.2.2]; exact h3.2.2 q hq') (lw_ret X.1.1 X.1.2.1 X.2.1 X.1.2.2.2.2.2.2.2.1 hd)
theorem lw_alen (X : lX E p s m bb meth c0) {L : Nat} {xs : Nat → Int32} (hs : ∀ (U : State) (H : Heap), E.2.2.2.2.2 U H → va_X (ax_ad E 1) L xs U H) (hdg : decode code pc = .ok (.arraylength, 1)) (kk : lG E p l e s m bb below meth c0 (pc + 1) ls (.inl (nI L) :: st) M kc ks) : lG E p l e s m bb below meth c0 pc ls (.inr (.inr 1) :: st) M kc ks := by
  intro H locs la h1 h2 h3 h4
  obtain ⟨scr, v1, v2, v3, v4, v5⟩ := hs s H h2
  have k1 := kk H locs la h1 h2 h3 h4
  exact W.alen X.1.1 X.1.2.1 (a := ax_ad E 1) v1 v2 (n := nI L) (by rw [v4]; rfl) (g := F0 m pc la (.ref (ax_ad E 1) :: st.map (ax_cv E))) rfl rfl hdg k1
theorem lw_per (X : lX E p s m bb meth c0) {x n : Int32} {K : Option ax_V → ax_M → Prop} (hkk : kc ≤ 601023 ∧ ks ≤ 7293027) (hM : Met l yLp lp_ws (ax_rm (d + 1811) 1 6) (va_Pc (([.inr (.inr 8), .inl x, .inl n, .inr (.inr 165)] : List ax_V).map (ax_cv E)) (ax_S E M)) (ax_Q E K) 1 6 (ax_A E)) (hd : d ≤ 100) (hdg : decode code pc = .ok (.invokestatic 39, 3))
    (kk : ∀ v M', K v M' → lG E p l e s m bb below meth c0 (pc + 3) ls v.toList M' (kc + 1) (ks + 6)) : lG E p l e s m bb below meth c0 pc ls [.inr (.inr 165), .inl n, .inl x, .inr (.inr 8)] M kc ks := by
  intro H locs la h1 h2 h3 h4
  obtain ⟨hx, hb, hml, hown, hts, hK, hok, hlk, hB, hR⟩ := id X.1
  have hlink := hts _ (ax_wk_mem lw_w.1)
  have hstat := hts _ (ax_wk_mem lw_w.2.1)
  have hcode := hts _ (ax_wk_mem lw_w.2.2.1)
  have hini := hts _ (ax_wk_mem lw_w.2.2.2)
  obtain ⟨mk, methM, cM, hnamed, hmethM, -, -, -, -, -, -, hsigM⟩ := Cond.codeWith_spec hcode
  have hstatic : methM.isStatic = true := Cond.static_spec hnamed hmethM hstat
  obtain ⟨kP, hkP, -⟩ := className_of_methodNamed hnamed
  have hinitP : kP.init = .initialized := Cond.initialized_spec (findClass_of_methodNamed hnamed) hkP hini
  have hlenM : (([.inr (.inr 8), .inl x, .inl n, .inr (.inr 165)] : List ax_V).map (ax_cv E)).length = methM.sig.parameters.length := by
    have h0 : (parseMethodDescriptor yLp.desc).map (fun d => d.parameters.length) = some 4 := by decide +kernel
    rw [hsigM] at h0
    exact (Option.some.inj h0).symm
  have hBk : Back l room_1 p e below s #[Value.ref bb] yLp 3 8 (PreOf room_1 1 6 _) (PostOf (ax_Q E K) 1 6 (ax_A E)) :=
    va_backW (hh := hLp) (bytes := method_3_code) (maxL := 5) (ret := some .int) hM (ax_pre hok) rfl rfl (by show d + 1811 + 1 + 1 ≤ 2048; omega) (by show 8 + (5 + 11) + (12 + 40 * (d + 1811)) ≤ 84000; omega)
      (fun w hw a' U hW => by
        rcases List.mem_cons.mp hw with h | h
        · subst h; exact word_at hW (good_of_word (List.mem_filter.mp (ax_wk_mem lw_w.2.2.1)).2) hcode
        · exact word_at hW (good_of_word (List.mem_filter.mp h).2) (hts w h)) List.mem_cons_self
      (fun a' U hW => word_at hW (good_of_word (List.mem_filter.mp (ax_wk_mem lw_w.2.2.2)).2) hini)
  refine ax_after (rest := []) (mc := 1) (ms := 6) (K := K) (a := (([.inr (.inr 8), .inl x, .inl n, .inr (.inr 165)] : List ax_V).map (ax_cv E)).toArray) X.1 ?_ h2 h3 h4 (fun v M' hv => by simpa using kk v M' hv)
  intro T hT XT
  obtain ⟨vm₁, X₁, hstep₁⟩ := XT.invokestatic hx hown hlink hnamed hmethM hstatic hkP hinitP (by decide) (g := F0 m pc la (([.inr (.inr 165), .inl n, .inl x, .inr (.inr 8)] : List ax_V).map (ax_cv E))) rfl (argsL := ([.inr (.inr 8), .inl x, .inl n, .inr (.inr 165)] : List ax_V).map (ax_cv E)) (rest := []) hlenM rfl (by rw [hb]; exact hdg)
  obtain ⟨v, ⟨U', l2, c2, s2⟩, X', ⟨g', mk', t, L, e1, e2, hq, q1, hL, q2, q3⟩, hsteps⟩ := hBk m meth c0 ⟨T.setVm vm₁, locs, kc, ks⟩ (F0 m pc la []) (.invokestatic 39) mk (([.inr (.inr 8), .inl x, .inl n, .inr (.inr 165)] : List ax_V).map (ax_cv E)).toArray X₁ rfl (by rw [hml]; exact h4.1) (by rw [hb]; exact hdg) (by show 2 * 0 + 0 ≤ 8; decide) (X₁.named hnamed)
    ⟨by show kc + 1 ≤ 601024; omega, by show ks + 6 ≤ 7293033; omega, ⟨rfl, ax_S_end X.1 h1 h2 h3 (t := T.setVm vm₁) hT X₁.warmed⟩⟩
  dsimp only [Pt.U, Pt.locs, Pt.cells, Pt.slots] at X' e1 e2 q1 q2 q3 hsteps
  subst q1; subst q2; subst q3
  exact ⟨v, (T.setVm vm₁).calling g' mk' _, t, U', L, hT, X', hL, e1, e2, hq, fun target h => hstep₁ _ fun acts => by rw [doInvoke_state]; exact hsteps.trans h⟩
end LAW
