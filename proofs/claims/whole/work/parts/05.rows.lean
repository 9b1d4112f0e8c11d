/-! contracts, the walk's goal over the abstract machine, and its rows for memory and calls -/
def ax_rm (d mc ms : Nat) : Room := { frames := d + 1, cells := mc, slots := ms, locals := 12 + 40 * d }
def ax_Q (E : ax_E) (Q : Option ax_V → ax_M → Prop) : Array Value → State → Outcome → State → Prop := fun _ st o t =>
  (∃ (r : Option ax_V) (M' : ax_M), o = .returned (r.map (ax_cv E)) ∧ Q r M' ∧ ax_S E M' t) ∧ va_F (ax_A E) st t
def ax_wy (u : ax_U) : List Cond := Cond.code u.1 u.2.1 u.2.2.1 u.2.2.2.1 :: ax_gw
def ax_C (E : ax_E) (l : Launch) (d mi : Nat) (as : List ax_V) (M : ax_M) (Q : Option ax_V → ax_M → Prop) : Prop :=
  Met l (ax_mu mi).1 (ax_wy (ax_mu mi)) (ax_rm d (ax_mu mi).2.2.2.2.2.1 (ax_mu mi).2.2.2.2.2.2) (va_Pc (as.map (ax_cv E)) (ax_S E M)) (ax_Q E Q) (ax_mu mi).2.2.2.2.2.1 (ax_mu mi).2.2.2.2.2.2 (ax_A E)
theorem ax_gw_good : GoodIn ax_gw ax_gw := fun w h => ⟨h, good_of_word (List.mem_filter.mp h).2⟩
theorem ax_wy_good {u : ax_U} (h : u ∈ ax_mt) : GoodIn ax_gw (ax_wy u) := by
  intro w hw
  rcases List.mem_cons.mp hw with h1 | h1
  · subst h1; exact ⟨ax_code h, good_of_word (List.mem_filter.mp (ax_code h)).2⟩
  · exact ax_gw_good w h1
theorem ax_C0.moved {E : ax_E} {M : ax_M} {u U : State} {H : Heap} (hvm : u.vm.Alike U.vm) (h : ax_C0 E M u H) : ax_C0 E M U H := fun k hk hl => ⟨(h k hk hl).1, ax_X0.moved hvm (h k hk hl).2.1, (h k hk hl).2.2⟩
theorem ax_H.moved {E : ax_E} {M : ax_M} {u U : State} {H : Heap} (hvm : u.vm.Alike U.vm) (h : ax_H E M u H) : ax_H E M U H := ⟨h.1, h.2.1, h.2.2.moved hvm⟩
/-- what holds at a method's entry and stays -/
def ax_X (E : ax_E) (p : Program) (R : Room) (s : State) (m : MethodId) (args : Array Value) (meth : Method) (c : Code) (cc : ByteArray) (own nL d : Nat) : Prop :=
  p.tables.exec = Jvm.exec ∧ c.code = cc ∧ c.maxLocals = nL ∧ s.vm.findClass (ax_cn.getD own "") = some m.cls ∧ (∀ w ∈ ax_gw, w.before args s = true) ∧ ax_K E s ∧ ax_Xok E ∧ meth.locks = false ∧ E.2.2.2.1 ≤ s.heap.size ∧ (d + 2 ≤ R.frames ∧ 52 + 40 * d ≤ R.locals)
def ax_G (E : ax_E) (p : Program) (l : Launch) (e : Env) (R : Room) (s : State) (m : MethodId) (args : Array Value) (below : List Frame) (meth : Method) (c : Code) (nL : Nat) (Q : State → Prop) (pc : Nat) (ls : ax_L) (st : List ax_V) (M : ax_M) (kc ks : Nat) : Prop :=
  ∀ (H : Heap) (locs : List Loc) (la : Array Slot), ax_H E M s H → E.2.2.2.2.2 s H → va_S (ax_A E) s.heap H locs → lv_has la nL (ax_prs E 0 ls) → W p l e R s m args below meth c H locs kc ks Q (F0 m pc la (st.map (ax_cv E)))
section AXR
variable {E : ax_E} {p : Program} {l : Launch} {e : Env} {R : Room} {s : State} {m : MethodId} {args : Array Value} {below : List Frame} {meth : Method} {c : Code} {cc : ByteArray} {own nL d : Nat} {Q : State → Prop} {pc : Nat} {ls : ax_L} {st : List ax_V} {M : ax_M} {kc ks : Nat}
theorem ax_g_sub {ls' : ax_L} (hs : ∀ (i : Nat) (v : ax_V), ls'[i]? = some (some v) → ls[i]? = some (some v)) (k : ax_G E p l e R s m args below meth c nL Q pc ls' st M kc ks) : ax_G E p l e R s m args below meth c nL Q pc ls st M kc ks :=
  fun H locs la h1 h2 h3 h4 => k H locs la h1 h2 h3 (ax_lv_sub h4 hs)
theorem ax_g_aload (X : ax_X E p R s m args meth c cc own nL d) {i k : Nat} (hdg : decode cc pc = .ok (.aload i, 2)) (hl : ls[i]? = some (some (.inr (.inr k)))) (kk : ax_G E p l e R s m args below meth c nL Q (pc + 2) ls (.inr (.inr k) :: st) M kc ks) : ax_G E p l e R s m args below meth c nL Q pc ls st M kc ks := by
  intro H locs la h1 h2 h3 h4
  have hb := X.2.1
  have hexec := X.1
  have hl' : la[i]? = some (.val (ax_rv E k)) := ax_lv_at h4 hl
  have kk' := kk H locs la h1 h2 h3 h4
  have e1 : ((.inr (.inr k) : ax_V) :: st).map (ax_cv E) = ax_rv E k :: st.map (ax_cv E) := rfl
  rw [e1] at kk'
  by_cases hk : k = 0
  · subst hk
    have e0 : ax_rv E 0 = .null := rfl
    rw [e0] at hl' kk'
    intro T hT X'
    obtain ⟨t, a, b⟩ := kk' T hT X'
    refine ⟨t, ?_, b⟩
    jvm_step X'.here [X'.here.top, hexec, hb, hdg, hl', Value.isRef]
    exact a
  · have e0 : ax_rv E k = .ref (ax_ad E k) := by unfold ax_rv; rw [if_neg hk]
    rw [e0] at hl' kk'
    exact lv_aload hexec hb hdg hl' kk'
theorem ax_g_aload_n (X : ax_X E p R s m args meth c cc own nL d) {i : Fin 4} {k : Nat} (hdg : decode cc pc = .ok (.aload_n i, 1)) (hl : ls[i.val]? = some (some (.inr (.inr k)))) (kk : ax_G E p l e R s m args below meth c nL Q (pc + 1) ls (.inr (.inr k) :: st) M kc ks) : ax_G E p l e R s m args below meth c nL Q pc ls st M kc ks := by
  intro H locs la h1 h2 h3 h4
  have hb := X.2.1
  have hexec := X.1
  have hl' : la[i.val]? = some (.val (ax_rv E k)) := ax_lv_at h4 hl
  have kk' := kk H locs la h1 h2 h3 h4
  have e1 : ((.inr (.inr k) : ax_V) :: st).map (ax_cv E) = ax_rv E k :: st.map (ax_cv E) := rfl
  rw [e1] at kk'
  by_cases hk : k = 0
  · subst hk
    have e0 : ax_rv E 0 = .null := rfl
    rw [e0] at hl' kk'
    intro T hT X'
    obtain ⟨t, a, b⟩ := kk' T hT X'
    refine ⟨t, ?_, b⟩
    jvm_step X'.here [X'.here.top, hexec, hb, hdg, hl', Value.isRef]
    exact a
  · have e0 : ax_rv E k = .ref (ax_ad E k) := by unfold ax_rv; rw [if_neg hk]
    rw [e0] at hl' kk'
    exact lv_aload_n hexec hb hdg rfl hl' kk'
theorem ax_g_astore (X : ax_X E p R s m args meth c cc own nL d) {i k : Nat} (hdg : decode cc pc = .ok (.astore i, 2)) (hi : i < nL) (kk : ax_G E p l e R s m args below meth c nL Q (pc + 2) (ax_st1 ls i (.inr (.inr k))) st M kc ks) : ax_G E p l e R s m args below meth c nL Q pc ls (.inr (.inr k) :: st) M kc ks := by
  intro H locs la h1 h2 h3 h4
  have hb := X.2.1
  have hexec := X.1
  have e1 : ((.inr (.inr k) : ax_V) :: st).map (ax_cv E) = ax_rv E k :: st.map (ax_cv E) := rfl
  rw [e1]
  by_cases hk : k = 0
  · subst hk
    have e0 : ax_rv E 0 = .null := rfl
    rw [e0]
    obtain ⟨ls', e', h'⟩ := lv_store1 (v := .null) h4 hi rfl
    intro T hT X'
    obtain ⟨t, a, b⟩ := kk H locs ls' h1 h2 h3 (ax_lv_st1 (v := .inr (.inr 0)) h') T hT X'
    refine ⟨t, ?_, b⟩
    jvm_step X'.here [X'.here.top, ↓top_set X'.here.top, hexec, hb, hdg, e', Value.isRef]
    exact a
  · have e0 : ax_rv E k = .ref (ax_ad E k) := by unfold ax_rv; rw [if_neg hk]
    rw [e0]
    exact lv_astore hexec hb hdg h4 hi rfl (fun ls' h' => kk H locs ls' h1 h2 h3 (ax_lv_st1 (v := .inr (.inr k)) (by show lv_has ls' nL ((i, ax_rv E k) :: _); rw [e0]; exact h')))
theorem ax_g_astore_n (X : ax_X E p R s m args meth c cc own nL d) {i : Fin 4} {k : Nat} (hdg : decode cc pc = .ok (.astore_n i, 1)) (hi : i.val < nL) (kk : ax_G E p l e R s m args below meth c nL Q (pc + 1) (ax_st1 ls i.val (.inr (.inr k))) st M kc ks) : ax_G E p l e R s m args below meth c nL Q pc ls (.inr (.inr k) :: st) M kc ks := by
  intro H locs la h1 h2 h3 h4
  have hb := X.2.1
  have hexec := X.1
  have e1 : ((.inr (.inr k) : ax_V) :: st).map (ax_cv E) = ax_rv E k :: st.map (ax_cv E) := rfl
  rw [e1]
  by_cases hk : k = 0
  · subst hk
    have e0 : ax_rv E 0 = .null := rfl
    rw [e0]
    obtain ⟨ls', e', h'⟩ := lv_store1 (v := .null) h4 hi rfl
    intro T hT X'
    obtain ⟨t, a, b⟩ := kk H locs ls' h1 h2 h3 (ax_lv_st1 (v := .inr (.inr 0)) h') T hT X'
    refine ⟨t, ?_, b⟩
    jvm_step X'.here [X'.here.top, ↓top_set X'.here.top, hexec, hb, hdg, e', Value.isRef]
    exact a
  · have e0 : ax_rv E k = .ref (ax_ad E k) := by unfold ax_rv; rw [if_neg hk]
    rw [e0]
    exact lv_astore_n hexec hb hdg rfl h4 hi rfl (fun ls' h' => kk H locs ls' h1 h2 h3 (ax_lv_st1 (v := .inr (.inr k)) (by show lv_has ls' nL ((i.val, ax_rv E k) :: _); rw [e0]; exact h')))
theorem ax_g_iinc (X : ax_X E p R s m args meth c cc own nL d) {i : Nat} {n : Int} {x : Int32} (hdg : decode cc pc = .ok (.iinc i n, 3)) (hl : ls[i]? = some (some (.inl x))) (hi : i < nL) (kk : ax_G E p l e R s m args below meth c nL Q (pc + 3) (ax_st1 ls i (.inl (x + Int32.ofInt n))) st M kc ks) : ax_G E p l e R s m args below meth c nL Q pc ls st M kc ks := by
  intro H locs la h1 h2 h3 h4
  obtain ⟨k, hk⟩ := List.getElem?_of_mem ((ax_prs_mem (E := E) ls 0 (i, .int x)).mpr ⟨i, .inl x, hl, by simp [ax_cv]⟩)
  exact lv_iinc X.1 X.2.1 hdg h4 hk rfl hi rfl (fun ls' h' => kk H locs ls' h1 h2 h3 (ax_lv_st1 (v := .inl _) h'))
theorem ax_g_get (X : ax_X E p R s m args meth c cc own nL d) {idx ci j k r3 : Nat} {a : Nat × Nat} (hq : ax_FL[r3]? = some (own, idx, ci, j, a)) (hob : ax_ob M.1 k (ci + 4) = true) (hdg : decode cc pc = .ok (.getfield idx, 3))
    (kk : ax_G E p l e R s m args below meth c nL Q (pc + 3) ls ((if ax_kd ci j = 2 then .inr (.inr (M.2.2.2 k j)) else .inl (M.2.1 k j)) :: st) M kc ks) : ax_G E p l e R s m args below meth c nL Q pc ls (.inr (.inr k) :: st) M kc ks := by
  intro H locs la h1 h2 h3 h4
  obtain ⟨hx, hb, hml, hown, hts, hK, -⟩ := X
  obtain ⟨ht, h8, hn⟩ := ax_ob_t hob
  obtain ⟨r, hr, cell, q1, q2, q3, q4⟩ := (h1.2.1 k h8 hn).2.2.2 ci ht
  have hf := ax_FL_ok _ (List.mem_of_getElem? hq)
  unfold ax_fc at hf
  dsimp only at hf
  rw [hr] at hf
  simp only [Bool.and_eq_true, decide_eq_true_eq] at hf
  obtain ⟨⟨hw, hj⟩, hd⟩ := hf
  obtain ⟨hS, hfc, kC, hkC, hkind⟩ := hK.1 ci _ hr
  obtain ⟨cf, kf, fi, f, hi, hsl⟩ := hS j hj
  have e1 : ((.inr (.inr k) : ax_V) :: st).map (ax_cv E) = .ref (ax_ad E k) :: st.map (ax_cv E) := by
    show ax_rv E k :: _ = _
    rw [ax_rv_8 h8]
  rw [e1]
  have hlink := hts _ (ax_wk_mem hw)
  rw [← hd] at hlink
  refine W.getf hx hb hown hlink hi (u_facts hfc hkC (u_lays hts (ax_lay hr) hj) hi).1 q1 (by rw [q3]; exact fun h => by cases h) (v := ax_fv E M ci k j) (by rw [hsl]; exact q4 j hj) rfl rfl hdg ?_
  have kk' := kk H locs la h1 h2 h3 h4
  have e2 : ((if ax_kd ci j = 2 then .inr (.inr (M.2.2.2 k j)) else .inl (M.2.1 k j) : ax_V) :: st).map (ax_cv E) = ax_fv E M ci k j :: st.map (ax_cv E) := by
    unfold ax_fv
    by_cases hkd : ax_kd ci j = 2
    · simp only [hkd, if_true]; rfl
    · simp only [hkd, if_false]; rfl
  rw [e2] at kk'
  exact kk'
/-- a value that a field may hold -/
def ax_okv (ci j : Nat) (v : ax_V) : Prop := match v with
  | .inl x => ax_kd ci j = 0 ∨ (ax_kd ci j = 1 ∧ (x = 0 ∨ x = 1))
  | .inr (.inl _) => False
  | .inr (.inr _) => ax_kd ci j = 2
def ax_setv (M : ax_M) (k j : Nat) (v : ax_V) : ax_M := match v with
  | .inl x => (M.1, ax_up M.2.1 k j x, M.2.2.1, M.2.2.2)
  | .inr (.inl _) => M
  | .inr (.inr q) => (M.1, M.2.1, M.2.2.1, ax_up M.2.2.2 k j q)
theorem ax_okv_fits {ci j : Nat} {v : ax_V} (h : ax_okv ci j v) : narrow (ax_ty ci j) (ax_cv E v) = ax_cv E v ∧ fits (ax_ty ci j) (ax_cv E v) = true := by
  rcases v with x | x | k
  · replace h : ax_kd ci j = 0 ∨ (ax_kd ci j = 1 ∧ (x = 0 ∨ x = 1)) := h
    unfold ax_kd at h
    cases ht : ax_ty ci j
    all_goals simp only [ht] at h
    all_goals first | (exfalso; revert h; simp; done) | exact ⟨rfl, rfl⟩ | (rcases h with h | ⟨-, h | h⟩ <;> first | (exact absurd h (by decide)) | (subst h; exact ⟨rfl, rfl⟩) | (subst h; decide))
  · exact h.elim
  · replace h : ax_kd ci j = 2 := h
    unfold ax_kd at h
    show narrow (ax_ty ci j) (ax_rv E k) = ax_rv E k ∧ fits (ax_ty ci j) (ax_rv E k) = true
    unfold ax_rv
    cases ht : ax_ty ci j
    all_goals simp only [ht] at h
    all_goals first | (exfalso; revert h; simp; done) | (split <;> exact ⟨rfl, rfl⟩)
theorem ax_put_C1 {ci j k : Nat} {v : ax_V} (hv : ax_okv ci j v) {r : vw_C} {H1 : Heap} (ht : (ax_SH k).1 = ci + 4) (hr : ax_cl[ci]? = some r) (ho : t_OB (ax_ad E k) (E.1 ci) r.2.2 (E.2.1 ci) H1 (updV (ax_fv E M ci k) j (ax_cv E v))) : ax_C1 E (ax_setv M k j v) k H1 := by
  refine ⟨fun q => by rw [ht] at q; omega, fun q => by rw [ht] at q; omega, fun q => by rw [ht] at q; omega, fun c' q => ?_⟩
  have hc : c' = ci := by rw [ht] at q; omega
  subst hc
  refine ⟨r, hr, ho.to (fun i _ => ?_)⟩
  unfold updV
  rcases v with x | x | q
  · have hne : ¬ ax_kd c' j = 2 := by
      rcases hv with h | h
      · rw [h]; decide
      · rw [h.1]; decide
    by_cases hi : i = j
    · subst hi
      rw [if_pos rfl]
      simp only [ax_fv, if_neg hne, ax_setv, ax_up_s]; rfl
    · rw [if_neg hi]
      simp only [ax_fv, ax_setv, ax_up_j _ _ _ _ hi]
  · exact hv.elim
  · have hkd : ax_kd c' j = 2 := hv
    by_cases hi : i = j
    · subst hi
      rw [if_pos rfl]
      simp only [ax_fv, if_pos hkd, ax_setv, ax_up_s]; rfl
    · rw [if_neg hi]
      simp only [ax_fv, ax_setv, ax_up_j _ _ _ _ hi]
theorem ax_setv_off {k j : Nat} {v : ax_V} (k' : Nat) (h : k' ≠ k) : (ax_setv M k j v).2.1 k' = M.2.1 k' ∧ (ax_setv M k j v).2.2.1 k' = M.2.2.1 k' ∧ (ax_setv M k j v).2.2.2 k' = M.2.2.2 k' := by
  rcases v with x | x | q
  · exact ⟨ax_up_r _ _ _ h, rfl, rfl⟩
  · exact ⟨rfl, rfl, rfl⟩
  · exact ⟨rfl, rfl, ax_up_r _ _ _ h⟩
theorem ax_setv_1 {k j : Nat} {v : ax_V} : (ax_setv M k j v).1 = M.1 := by
  rcases v with x | x | q <;> rfl
theorem ax_cn_cl {c : Nat} {r : vw_C} (h : ax_cl[c]? = some r) : ax_cn.getD c "" = r.1 := by
  match c, h with
  | 0, h => cases h; rfl
  | 1, h => cases h; rfl
  | 2, h => cases h; rfl
  | 3, h => cases h; rfl
  | 4, h => cases h; rfl
  | 5, h => cases h; rfl
  | 6, h => cases h; rfl
  | 7, h => cases h; rfl
  | 8, h => cases h; rfl
  | 9, h => cases h; rfl
  | 10, h => cases h; rfl
  | 11, h => cases h; rfl
  | c + 12, h => simp [ax_cl] at h
theorem ax_g_put (X : ax_X E p R s m args meth c cc own nL d) {idx ci j k r3 : Nat} {a : Nat × Nat} {v : ax_V} (hq : ax_FL[r3]? = some (own, idx, ci, j, a)) (hob : ax_ob M.1 k (ci + 4) = true) (hv : ax_okv ci j v) (hfin : ((ax_cl[ci]?).map (fun r => (r.2.1 j).2.2.2)) = some false ∨ (meth.name = "<init>" ∧ own = ci)) (hdg : decode cc pc = .ok (.putfield idx, 3))
    (kk : ax_G E p l e R s m args below meth c nL Q (pc + 3) ls st (ax_setv M k j v) kc ks) : ax_G E p l e R s m args below meth c nL Q pc ls (v :: .inr (.inr k) :: st) M kc ks := by
  intro H locs la h1 h2 h3 h4
  obtain ⟨hx, hb, hml, hown, hts, hK, hok, -⟩ := X
  obtain ⟨ht, h8, hn⟩ := ax_ob_t hob
  obtain ⟨r, hr, cell, q1, q2, q3, q4⟩ := (h1.2.1 k h8 hn).2.2.2 ci ht
  have hf := ax_FL_ok _ (List.mem_of_getElem? hq)
  unfold ax_fc at hf
  dsimp only at hf
  rw [hr] at hf
  simp only [Bool.and_eq_true, decide_eq_true_eq] at hf
  obtain ⟨⟨hw, hj⟩, hd⟩ := hf
  have hap := va_apart (own := "") hts (ax_lay hr) (ax_ty ci) (ax_tyo hr) (ax_nmo hr) hK hr
  obtain ⟨hS, hfc, kC, hkC, hkind⟩ := hK.1 ci _ hr
  obtain ⟨cf, kf, fi, f, hi, hsl⟩ := hS j hj
  have e1 : (v :: .inr (.inr k) :: st).map (ax_cv E) = ax_cv E v :: .ref (ax_ad E k) :: st.map (ax_cv E) := by
    show ax_cv E v :: ax_rv E k :: _ = _
    rw [ax_rv_8 h8]
  rw [e1]
  have hlink := hts _ (ax_wk_mem hw)
  rw [← hd] at hlink
  have hlay := hts _ (ax_lay hr _ (u_in_lay hj))
  have hst := (u_facts hfc hkC (u_lays hts (ax_lay hr) hj) hi).1
  obtain ⟨hn1, hn2⟩ := ax_okv_fits (E := E) hv
  have fin : ∀ (H1 : Heap), H1[ax_ad E k]? = some (cell.setSlot f.slot (ax_cv E v)) → H1.size = H.size → (∀ q, q ≠ ax_ad E k → H1[q]? = H[q]?) → W p l e R s m args below meth c H1 (locs ++ [⟨ax_ad E k, f.slot⟩]) kc ks Q (F0 m (pc + 3) la (st.map (ax_cv E))) := by
    intro H1 g1 g2 g3
    refine kk H1 _ la (h1.set h8 ax_setv_1 ax_setv_off g2 g3 (ax_put_C1 hv ht hr ⟨_, g1, q2, q3, ?_⟩)) (ax_X_put hok h8 g3 h2) (h3.put g2 g3 (ax_ad_A h8)) h4
    rw [hsl]
    exact t_set q4 hap hj (ax_cv E v)
  by_cases hfn : (r.2.1 j).2.2.2 = true
  · obtain ⟨hin2, hoc⟩ : meth.name = "<init>" ∧ own = ci := by
      rcases hfin with h | h
      · rw [hr] at h; simp [hfn] at h
      · exact h
    subst hoc
    unfold u_lay at hlay
    rw [if_pos hfn] at hlay
    have hcf : m.cls = cf := by
      obtain ⟨_, _, c', _, _, _, -, -, hf', -, -, -, hown2, -⟩ := Cond.laysFinal_spec hlay
      have e1 : c' = cf := by have := hi.symm.trans hf'; simp at this; exact this.1.symm
      rw [hd, ← ax_cn_cl hr] at hown2
      rw [← e1]; exact Option.some.inj (hown.symm.trans hown2)
    have h6 := u_fits hfc hkC hkind (Or.inr hlay) hi (ax_tyo hr j hj) hn1 hn2
    exact W.putFinK hx hb hown hlink hi hst hcf hin2 (by rw [q2]; exact h6) q1 q3 (by rw [hsl]; exact k2_hasslot (q4 j hj)) rfl rfl hdg fin
  · unfold u_lay at hlay
    rw [if_neg hfn] at hlay
    have h6 := u_store hfc hkC hkind hlay hi (ax_tyo hr j hj) hn1 hn2
    exact W.putK hx hb (f := f) ⟨hown, hlink, ⟨_, _, _, hi⟩, hst⟩ (by rw [q2]; exact h6) q1 q3 (by rw [hsl]; exact k2_hasslot (q4 j hj)) rfl rfl hdg fin
/-- an array's cell -/
theorem ax_arr {k t : Nat} {H : Heap} (h1 : ax_H E M s H) (hob : ax_ob M.1 k t = true) : ax_C1 E M k H ∧ (ax_SH k).1 = t ∧ 8 ≤ k := by
  obtain ⟨ht, h8, hn⟩ := ax_ob_t hob
  exact ⟨h1.2.1 k h8 hn, ht, h8⟩
theorem ax_arrC1 {k t : Nat} {g : Nat → Int32} {H1 : Heap} (ht : (ax_SH k).1 = t) (h01 : t = 0 ∨ t = 1) (hc : H1[ax_ad E k]? = some (arrV (E.2.2.1 t) (ax_SH k).2 (fun j => .int (g j)))) : ax_C1 E (M.1, ax_ur M.2.1 k g, M.2.2.1, M.2.2.2) k H1 := by
  rcases h01 with h | h <;> subst h
  · refine ⟨fun q => ?_, fun q => by rw [ht] at q; omega, fun q => by rw [ht] at q; omega, fun c' q => by rw [ht] at q; omega⟩
    simp only [ax_ur_s]
    exact hc
  · refine ⟨fun q => by rw [ht] at q; omega, fun q => ?_, fun q => by rw [ht] at q; omega, fun c' q => by rw [ht] at q; omega⟩
    simp only [ax_ur_s]
    exact hc
theorem ax_upr {α : Type} (f : Nat → Nat → α) (k j : Nat) (v : α) : ax_up f k j v = ax_ur f k (fun i => if i = j then v else f k i) := by
  funext k' j'
  unfold ax_up ax_ur
  by_cases h : k' = k
  · subst h; simp
  · simp [h]
theorem ax_ur_off {k : Nat} {g : Nat → Int32} (k' : Nat) (h : k' ≠ k) : ((M.1, ax_ur M.2.1 k g, M.2.2.1, M.2.2.2) : ax_M).2.1 k' = M.2.1 k' ∧ ((M.1, ax_ur M.2.1 k g, M.2.2.1, M.2.2.2) : ax_M).2.2.1 k' = M.2.2.1 k' ∧ ((M.1, ax_ur M.2.1 k g, M.2.2.1, M.2.2.2) : ax_M).2.2.2 k' = M.2.2.2 k' := ⟨ax_ur_k _ _ h, rfl, rfl⟩
theorem ax_ul_off {k : Nat} {g : Nat → Int64} (k' : Nat) (h : k' ≠ k) : ((M.1, M.2.1, ax_ur M.2.2.1 k g, M.2.2.2) : ax_M).2.1 k' = M.2.1 k' ∧ ((M.1, M.2.1, ax_ur M.2.2.1 k g, M.2.2.2) : ax_M).2.2.1 k' = M.2.2.1 k' ∧ ((M.1, M.2.1, ax_ur M.2.2.1 k g, M.2.2.2) : ax_M).2.2.2 k' = M.2.2.2 k' := ⟨rfl, ax_ur_k _ _ h, rfl⟩
theorem ax_st3 {k : Nat} (v : ax_V) (w : Int32) (h8 : 8 ≤ k) : (v :: .inl w :: .inr (.inr k) :: st).map (ax_cv E) = ax_cv E v :: .int w :: .ref (ax_ad E k) :: st.map (ax_cv E) := by
  show ax_cv E v :: .int w :: ax_rv E k :: _ = _
  rw [ax_rv_8 h8]
theorem ax_st2r {k : Nat} (w : Int32) (h8 : k ≠ 0) : (.inl w :: .inr (.inr k) :: st).map (ax_cv E) = .int w :: .ref (ax_ad E k) :: st.map (ax_cv E) := by
  show Value.int w :: ax_rv E k :: _ = _
  unfold ax_rv
  rw [if_neg h8]
theorem ax_g_iald (X : ax_X E p R s m args meth c cc own nL d) {k : Nat} {i : Int32} (hob : ax_ob M.1 k 0 = true) (hin : vp_in i (ax_SH k).2) (hdg : decode cc pc = .ok (.iaload, 1)) (kk : ax_G E p l e R s m args below meth c nL Q (pc + 1) ls (.inl (M.2.1 k i.toNatClampNeg) :: st) M kc ks) : ax_G E p l e R s m args below meth c nL Q pc ls (.inl i :: .inr (.inr k) :: st) M kc ks := by
  intro H locs la h1 h2 h3 h4
  obtain ⟨hc, ht, h8⟩ := ax_arr h1 hob
  have hlt : i.toNatClampNeg < (ax_SH k).2 := Nat.not_le.mp fun q => hin (Or.inr q)
  rw [ax_st2r i (by omega)]
  exact W.iald (v := .int (M.2.1 k i.toNatClampNeg)) X.1 X.2.1 (hc.1 ht) ((X.2.2.2.2.2.1.2 0 _ rfl).1 _ _) (fun q => by cases q) (by rw [arrV_size]; exact hin) (by rw [arrV_read _ _ hlt]) rfl rfl hdg (kk H locs la h1 h2 h3 h4)
theorem ax_g_xald (X : ax_X E p R s m args meth c cc own nL d) {k : Nat} {i : Int32} (hk : k < 8) (hin : vp_in i (M.2.2.2 k 0)) (hdg : decode cc pc = .ok (.iaload, 1)) (kk : ax_G E p l e R s m args below meth c nL Q (pc + 1) ls (.inl (M.2.1 k i.toNatClampNeg) :: st) M kc ks) : ax_G E p l e R s m args below meth c nL Q pc ls (.inl i :: .inr (.inr k) :: st) M kc ks := by
  intro H locs la h1 h2 h3 h4
  have hlt : i.toNatClampNeg < M.2.2.2 k 0 := Nat.not_le.mp fun q => hin (Or.inr q)
  obtain ⟨h0, ⟨scr, g1, g2, g3, g4, g5⟩, -⟩ := h1.2.2 k hk (by omega)
  rw [ax_st2r i h0]
  exact W.iald (v := .int (M.2.1 k i.toNatClampNeg)) X.1 X.2.1 g1 g2 g3 (fun q => q.elim (fun w => hin (Or.inl w)) (fun w => Nat.not_le.mpr (Nat.lt_of_lt_of_le hlt g4) w)) (g5 _ hlt) rfl rfl hdg (kk H locs la h1 h2 h3 h4)
theorem ax_g_zald (X : ax_X E p R s m args meth c cc own nL d) {k : Nat} {i : Int32} (hob : ax_ob M.1 k 1 = true) (hin : vp_in i (ax_SH k).2) (hdg : decode cc pc = .ok (.baload, 1)) (kk : ax_G E p l e R s m args below meth c nL Q (pc + 1) ls (.inl (M.2.1 k i.toNatClampNeg) :: st) M kc ks) : ax_G E p l e R s m args below meth c nL Q pc ls (.inl i :: .inr (.inr k) :: st) M kc ks := by
  intro H locs la h1 h2 h3 h4
  obtain ⟨hc, ht, h8⟩ := ax_arr h1 hob
  have hlt : i.toNatClampNeg < (ax_SH k).2 := Nat.not_le.mp fun q => hin (Or.inr q)
  rw [ax_st2r i (by omega)]
  exact W.zald (v := .int (M.2.1 k i.toNatClampNeg)) X.1 X.2.1 (hc.2.1 ht) ((X.2.2.2.2.2.1.2 1 _ rfl).1 _ _) (fun q => by cases q) (by rw [arrV_size]; exact hin) (by rw [arrV_read _ _ hlt]) rfl rfl hdg (kk H locs la h1 h2 h3 h4)
theorem ax_g_lald (X : ax_X E p R s m args meth c cc own nL d) {k : Nat} {i : Int32} (hob : ax_ob M.1 k 2 = true) (hin : vp_in i (ax_SH k).2) (hdg : decode cc pc = .ok (.laload, 1)) (kk : ax_G E p l e R s m args below meth c nL Q (pc + 1) ls (.inr (.inl (M.2.2.1 k i.toNatClampNeg)) :: st) M kc ks) : ax_G E p l e R s m args below meth c nL Q pc ls (.inl i :: .inr (.inr k) :: st) M kc ks := by
  intro H locs la h1 h2 h3 h4
  obtain ⟨hc, ht, h8⟩ := ax_arr h1 hob
  have hlt : i.toNatClampNeg < (ax_SH k).2 := Nat.not_le.mp fun q => hin (Or.inr q)
  rw [ax_st2r i (by omega)]
  exact W.lald (v := .long (M.2.2.1 k i.toNatClampNeg)) X.1 X.2.1 (hc.2.2.1 ht) ((X.2.2.2.2.2.1.2 2 _ rfl).1 _ _) (fun q => by cases q) (by rw [arrV_size]; exact hin) (by rw [arrV_read _ _ hlt]) rfl rfl hdg (kk H locs la h1 h2 h3 h4)
theorem ax_g_iast (X : ax_X E p R s m args meth c cc own nL d) {k : Nat} {i x : Int32} (hob : ax_ob M.1 k 0 = true) (hin : vp_in i (ax_SH k).2) (hdg : decode cc pc = .ok (.iastore, 1)) (kk : ax_G E p l e R s m args below meth c nL Q (pc + 1) ls st (M.1, ax_up M.2.1 k i.toNatClampNeg x, M.2.2.1, M.2.2.2) kc ks) : ax_G E p l e R s m args below meth c nL Q pc ls (.inl x :: .inl i :: .inr (.inr k) :: st) M kc ks := by
  intro H locs la h1 h2 h3 h4
  obtain ⟨hc, ht, h8⟩ := ax_arr h1 hob
  rw [ax_st3 (.inl x) i h8]
  refine W.iast X.1 X.2.1 (hc.1 ht) ((X.2.2.2.2.2.1.2 0 _ rfl).1 _ _) (fun q => by cases q) (by rw [arrV_size]; exact hin) rfl rfl hdg fun H1 g1 g2 g3 => ?_
  rw [ax_upr] at kk
  refine kk H1 _ la (h1.set h8 rfl ax_ur_off g2 g3 (ax_arrC1 ht (Or.inl rfl) ?_)) (ax_X_put X.2.2.2.2.2.2.1 h8 g3 h2) (h3.put g2 g3 (ax_ad_A h8)) h4
  rw [g1, arrV_store]
  congr 2
  funext q
  unfold updV
  split <;> rfl
theorem ax_g_zast (X : ax_X E p R s m args meth c cc own nL d) {k : Nat} {i x : Int32} (hob : ax_ob M.1 k 1 = true) (hin : vp_in i (ax_SH k).2) (h01 : x = 0 ∨ x = 1) (hdg : decode cc pc = .ok (.bastore, 1)) (kk : ax_G E p l e R s m args below meth c nL Q (pc + 1) ls st (M.1, ax_up M.2.1 k i.toNatClampNeg x, M.2.2.1, M.2.2.2) kc ks) : ax_G E p l e R s m args below meth c nL Q pc ls (.inl x :: .inl i :: .inr (.inr k) :: st) M kc ks := by
  intro H locs la h1 h2 h3 h4
  obtain ⟨hc, ht, h8⟩ := ax_arr h1 hob
  rw [ax_st3 (.inl x) i h8]
  refine W.zast X.1 X.2.1 (hc.2.1 ht) ((X.2.2.2.2.2.1.2 1 _ rfl).1 _ _) (fun q => by cases q) (by rw [arrV_size]; exact hin) rfl rfl hdg fun H1 g1 g2 g3 => ?_
  rw [ax_upr] at kk
  refine kk H1 _ la (h1.set h8 rfl ax_ur_off g2 g3 (ax_arrC1 ht (Or.inr rfl) ?_)) (ax_X_put X.2.2.2.2.2.2.1 h8 g3 h2) (h3.put g2 g3 (ax_ad_A h8)) h4
  have e1 : narrow .boolean (.int x) = .int x := by rcases h01 with h | h <;> subst h <;> decide
  rw [g1, e1, arrV_store]
  congr 2
  funext q
  unfold updV
  split <;> rfl
theorem ax_g_last (X : ax_X E p R s m args meth c cc own nL d) {k : Nat} {i : Int32} {x : Int64} (hob : ax_ob M.1 k 2 = true) (hin : vp_in i (ax_SH k).2) (hdg : decode cc pc = .ok (.lastore, 1)) (kk : ax_G E p l e R s m args below meth c nL Q (pc + 1) ls st (M.1, M.2.1, ax_up M.2.2.1 k i.toNatClampNeg x, M.2.2.2) kc ks) : ax_G E p l e R s m args below meth c nL Q pc ls (.inr (.inl x) :: .inl i :: .inr (.inr k) :: st) M kc ks := by
  intro H locs la h1 h2 h3 h4
  obtain ⟨hc, ht, h8⟩ := ax_arr h1 hob
  rw [ax_st3 (.inr (.inl x)) i h8]
  refine W.last X.1 X.2.1 (hc.2.2.1 ht) ((X.2.2.2.2.2.1.2 2 _ rfl).1 _ _) (fun q => by cases q) (by rw [arrV_size]; exact hin) rfl rfl hdg fun H1 g1 g2 g3 => ?_
  rw [ax_upr] at kk
  refine kk H1 _ la (h1.set h8 rfl ax_ul_off g2 g3 ⟨fun q => by rw [ht] at q; omega, fun q => by rw [ht] at q; omega, fun q => ?_, fun c' q => by rw [ht] at q; omega⟩) (ax_X_put X.2.2.2.2.2.2.1 h8 g3 h2) (h3.put g2 g3 (ax_ad_A h8)) h4
  rw [g1, arrV_store]
  simp only [ax_ur_s]
  congr 2
  funext q
  unfold updV
  split <;> rfl
theorem ax_g_alen (X : ax_X E p R s m args meth c cc own nL d) {k t : Nat} (hob : ax_ob M.1 k t = true) (h01 : t = 0 ∨ t = 1) (hdg : decode cc pc = .ok (.arraylength, 1)) (kk : ax_G E p l e R s m args below meth c nL Q (pc + 1) ls (.inl (Int32.ofNat (ax_SH k).2) :: st) M kc ks) : ax_G E p l e R s m args below meth c nL Q pc ls (.inr (.inr k) :: st) M kc ks := by
  intro H locs la h1 h2 h3 h4
  obtain ⟨hc, ht, h8⟩ := ax_arr h1 hob
  have e1 : (.inr (.inr k) :: st).map (ax_cv E) = .ref (ax_ad E k) :: st.map (ax_cv E) := by
    show ax_rv E k :: _ = _
    rw [ax_rv_8 h8]
  rw [e1]
  rcases h01 with h | h <;> subst h
  · exact W.alen (n := Int32.ofNat (ax_SH k).2) X.1 X.2.1 (hc.1 ht) ((X.2.2.2.2.2.1.2 0 _ rfl).1 _ _) (by rw [arrV_size] <;> rfl) rfl rfl hdg (kk H locs la h1 h2 h3 h4)
  · exact W.alen (n := Int32.ofNat (ax_SH k).2) X.1 X.2.1 (hc.2.1 ht) ((X.2.2.2.2.2.1.2 1 _ rfl).1 _ _) (by rw [arrV_size] <;> rfl) rfl rfl hdg (kk H locs la h1 h2 h3 h4)
theorem ax_g_xlen (X : ax_X E p R s m args meth c cc own nL d) {k : Nat} (hk : k < 8) (h0 : k ≠ 0) (hl : va_X (ax_ad E k) (M.2.2.2 k 0) (M.2.1 k) s s.heap) (hB : ax_ad E k < E.2.2.2.1) (hdg : decode cc pc = .ok (.arraylength, 1)) (kk : ax_G E p l e R s m args below meth c nL Q (pc + 1) ls (.inl (Int32.ofNat (M.2.2.2 k 0)) :: st) M kc ks) : ax_G E p l e R s m args below meth c nL Q pc ls (.inr (.inr k) :: st) M kc ks := by
  intro H locs la h1 h2 h3 h4
  have e1 : (.inr (.inr k) :: st).map (ax_cv E) = .ref (ax_ad E k) :: st.map (ax_cv E) := by
    show ax_rv E k :: _ = _
    unfold ax_rv
    rw [if_neg h0]
  rw [e1]
  exact va_slen X.1 X.2.1 hl (Nat.lt_of_lt_of_le hB X.2.2.2.2.2.2.2.2.1) (fun h => by unfold ax_A at h; omega) h3 hdg (kk H locs la h1 h2 h3 h4)
end AXR
