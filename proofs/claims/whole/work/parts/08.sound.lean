theorem ax_w_oi : ax_wk (1, 31) (.instanceMethod Lib.objectInit) = true := by decide +kernel
theorem ax_w_oc : ax_wk (1, 32) (.code Lib.objectInit ⟨#[0xb1]⟩ 1 none) = true := by decide +kernel
theorem ax_w_cn : ax_wk (3, 227) (.native arraycopyName) = true := by decide +kernel
theorem ax_w_cs : ax_wk (3, 226) (.static arraycopyName) = true := by decide +kernel
theorem ax_w_ci : ax_wk (1, 17) (.initialized "java/lang/System") = true := by decide +kernel
theorem ax_w_a0 : ax_wk (1, 158) (.arrayClass .int) = true := by decide +kernel
theorem ax_w_a1 : ax_wk (1, 192) (.arrayClass .boolean) = true := by decide +kernel
theorem ax_w_a2 : ax_wk (1, 193) (.arrayClass .long) = true := by decide +kernel
def ax_ckF (own idx r1 r2 r3 : Nat) : Bool := match ax_FL[r3]? with
  | some q => decide (q.1 = own ∧ q.2.1 = idx ∧ q.2.2.1 = r1 ∧ q.2.2.2.1 = r2)
  | none => false
theorem ax_ckF_t {own idx r1 r2 r3 : Nat} (h : ax_ckF own idx r1 r2 r3 = true) : ∃ a, ax_FL[r3]? = some (own, idx, r1, r2, a) := by
  unfold ax_ckF at h
  split at h
  · rename_i q hq
    obtain ⟨a, b, c, e, f⟩ := q
    simp only [decide_eq_true_eq] at h
    obtain ⟨rfl, rfl, rfl, rfl⟩ := h
    exact ⟨f, hq⟩
  · cases h
def ax_ckM (own idx kind r1 r2 r3 : Nat) : Bool := match ax_ML[r3]? with
  | some q => decide (q.1 = own ∧ q.2.1 = idx ∧ q.2.2.1 = kind ∧ q.2.2.2.1 = r1 ∧ q.2.2.2.2.1 = r2)
  | none => false
theorem ax_ckM_t {own idx kind r1 r2 r3 : Nat} (h : ax_ckM own idx kind r1 r2 r3 = true) : ∃ p1 p2 p3 p4, ax_ML[r3]? = some (own, idx, kind, r1, r2, p1, p2, p3, p4) := by
  unfold ax_ckM at h
  split at h
  · rename_i q hq
    obtain ⟨a, b, c, e, f, g, i, j, k⟩ := q
    simp only [decide_eq_true_eq] at h
    obtain ⟨rfl, rfl, rfl, rfl, rfl⟩ := h
    exact ⟨g, i, j, k, hq⟩
  · cases h
def ax_ckN (own idx r1 r2 r3 : Nat) : Bool := match ax_NL[r3]? with
  | some q => decide (q.1 = own ∧ q.2.1 = idx ∧ q.2.2.1 = r1) && decide ((ax_cl[r1]?).map (fun r => r.2.2) = some r2)
  | none => false
theorem ax_ckN_t {own idx r1 r2 r3 : Nat} (h : ax_ckN own idx r1 r2 r3 = true) : ∃ a b c r, ax_NL[r3]? = some (own, idx, r1, a, b, c) ∧ ax_cl[r1]? = some r ∧ r.2.2 = r2 := by
  unfold ax_ckN at h
  split at h
  · rename_i q hq
    obtain ⟨a, b, c, e, f, g⟩ := q
    simp only [Bool.and_eq_true, decide_eq_true_eq] at h
    obtain ⟨⟨rfl, rfl, rfl⟩, h2⟩ := h
    cases hr : ax_cl[c]? with
    | none => rw [hr] at h2; cases h2
    | some r => rw [hr] at h2; exact ⟨e, f, g, r, hq, rfl, Option.some.inj h2⟩
  · cases h
/-- the calls of nest mates' constructors: own, entry, method -/
def ax_nst : List (Nat × Nat × Nat × (Nat × Nat) × (Nat × Nat)) := [(10, 13, 37, (1, 2), (1, 36)), (5, 11, 92, (1, 3), (1, 42)), (5, 20, 0, (1, 4), (1, 162)), (5, 27, 6, (1, 5), (1, 197)), (10, 16, 92, (1, 3), (1, 42)), (10, 55, 33, (1, 13), (2, 154)), (10, 62, 24, (1, 14), (2, 174)), (6, 11, 92, (1, 3), (1, 42))]
def ax_nsc (q : Nat × Nat × Nat × (Nat × Nat) × (Nat × Nat)) : Bool := let u := ax_mu q.2.2.1
  ax_wk q.2.2.2.1 (.initialized u.1.cls) && ax_wk q.2.2.2.2 (.instanceMethod u.1) && decide (u.1.cls ≠ "java/lang/invoke/MethodHandle" ∧ u.1.cls ≠ "java/lang/invoke/VarHandle" ∧ (parseMethodDescriptor u.1.desc).map (fun d => d.parameters.length) = some 0) && decide (u.2.2.1 ≤ 21) && decide (q.2.2.1 < ax_mt.length) && decide (u.1.name = "<init>") && decide (u.2.2.2.1 = none)
theorem ax_nst_ok : ax_nst.all ax_nsc = true := by decide +kernel
theorem ax_nst_w : ∀ q ∈ ax_nst, Cond.methodLinkNest (ax_cn.getD q.1 "") q.2.1 (ax_mu q.2.2.1).1 "NoseCensus" ∈ ax_nwl := by decide +kernel
def ax_ckT (own idx r1 r3 : Nat) : Bool := match ax_nst[r3]? with
  | some q => decide (q.1 = own ∧ q.2.1 = idx ∧ q.2.2.1 = r1)
  | none => false
theorem ax_ckT_t {own idx r1 r3 : Nat} (h : ax_ckT own idx r1 r3 = true) : ∃ a b, (own, idx, r1, a, b) ∈ ax_nst := by
  unfold ax_ckT at h
  split at h
  · rename_i q hq
    obtain ⟨a, b, c, e, f⟩ := q
    simp only [decide_eq_true_eq] at h
    obtain ⟨rfl, rfl, rfl⟩ := h
    exact ⟨e, f, List.mem_of_getElem? hq⟩
  · cases h
def ax_ck (own nL rk : Nat) (ini : Bool) (cc : ByteArray) (pc : Nat) (en : ax_I) : Bool := decide (decode cc pc = .ok (en.1, en.2.1)) && (match en.1 with
  | .iconst n => decide (en.2.1 = 1 ∧ Int32.ofInt n = en.2.2.2.2.2.2.1)
  | .bipush n => decide (en.2.1 = 2 ∧ (Int8.ofInt n).toInt32 = en.2.2.2.2.2.2.1)
  | .sipush n => decide (en.2.1 = 3 ∧ (Int16.ofInt n).toInt32 = en.2.2.2.2.2.2.1)
  | .ldc i => decide (en.2.1 = 2) && ax_wk (en.2.2.1, en.2.2.2.1) (.constant (ax_cn.getD own "") i en.2.2.2.2.2.2.1)
  | .ldc_w i => decide (en.2.1 = 3) && ax_wk (en.2.2.1, en.2.2.2.1) (.constant (ax_cn.getD own "") i en.2.2.2.2.2.2.1)
  | .lconst n => decide (en.2.1 = 1 ∧ Int64.ofNat n.val = en.2.2.2.2.2.2.2)
  | .ldc2_w i => decide (en.2.1 = 3) && ax_wk (en.2.2.1, en.2.2.2.1) (.constantLong (ax_cn.getD own "") i en.2.2.2.2.2.2.2)
  | .iload i | .lload i | .aload i => decide (en.2.1 = 2 ∧ i = en.2.2.1)
  | .iload_n i | .lload_n i | .aload_n i => decide (en.2.1 = 1 ∧ i.val = en.2.2.1)
  | .istore i | .astore i => decide (en.2.1 = 2 ∧ i = en.2.2.1 ∧ i < nL)
  | .istore_n i | .astore_n i => decide (en.2.1 = 1 ∧ i.val = en.2.2.1 ∧ i.val < nL)
  | .lstore i => decide (en.2.1 = 2 ∧ i = en.2.2.1 ∧ i + 1 < nL)
  | .lstore_n i => decide (en.2.1 = 1 ∧ i.val = en.2.2.1 ∧ i.val + 1 < nL)
  | .iinc i n => decide (en.2.1 = 3 ∧ i = en.2.2.1 ∧ i < nL ∧ Int32.ofInt n = en.2.2.2.2.2.2.1)
  | .goto o => decide (en.2.1 = 3 ∧ (pc : Int) + o = (en.2.2.1 : Int))
  | .ifCond _ o | .if_icmp _ o => decide (en.2.1 = 3 ∧ (pc : Int) + o = (en.2.2.1 : Int))
  | .tableswitch dflt lo hi offs => decide ((pc : Int) + dflt = (en.2.2.1 : Int)) && decide (hi < lo + offs.size) && offs.toList.all (fun o => decide (0 ≤ (pc : Int) + o))
  | .lookupswitch dflt ps => decide (0 ≤ (pc : Int) + dflt) && ps.toList.all (fun o => decide (0 ≤ (pc : Int) + o.2)) && (ps.toList.zip (ps.toList.drop 1)).all (fun (a, next) => a.1 < next.1)
  | .ireturn => decide (en.2.1 = 1 ∧ (rk = 0 ∨ rk = 1))
  | .lreturn => decide (en.2.1 = 1 ∧ rk = 2)
  | .return_ => decide (en.2.1 = 1 ∧ rk = 3)
  | .getfield i => decide (en.2.1 = 3 ∧ en.2.2.2.2.2.1 = ax_kd en.2.2.1 en.2.2.2.1) && ax_ckF own i en.2.2.1 en.2.2.2.1 en.2.2.2.2.1
  | .putfield i => decide (en.2.1 = 3 ∧ en.2.2.2.2.2.1 = ax_kd en.2.2.1 en.2.2.2.1) && ax_ckF own i en.2.2.1 en.2.2.2.1 en.2.2.2.2.1 && (decide ((ax_cl[en.2.2.1]?).map (fun r => (r.2.1 en.2.2.2.1).2.2.2) = some false) || (ini && decide (own = en.2.2.1)))
  | .new i => decide (en.2.1 = 3) && ax_ckN own i en.2.2.1 en.2.2.2.1 en.2.2.2.2.1
  | .newarray a => decide (en.2.1 = 2) && (match a with
    | .int => decide (en.2.2.1 = 0)
    | .boolean => decide (en.2.2.1 = 1)
    | .long => decide (en.2.2.1 = 2)
    | _ => false)
  | .invokevirtual i => decide (en.2.1 = 3 ∧ en.2.2.2.2.2.1 = (ax_mu en.2.2.1).2.2.2.2.1) && ax_ckM own i 0 en.2.2.1 en.2.2.2.1 en.2.2.2.2.1
  | .invokestatic i => decide (en.2.1 = 3) && (if en.2.2.2.2.2.1 = 9 then ax_wk (en.2.2.1, en.2.2.2.1) (.methodLink (ax_cn.getD own "") i arraycopyName) else ax_ckM own i 1 en.2.2.1 en.2.2.2.1 en.2.2.2.2.1)
  | .invokespecial i => decide (en.2.1 = 3) && (if en.2.2.2.2.2.1 = 3 then ax_wk (en.2.2.1, en.2.2.2.1) (.methodLink (ax_cn.getD own "") i Lib.objectInit) else if en.2.2.2.2.2.1 = 4 then (decide (en.2.2.2.1 = 0) && ax_ckT own i en.2.2.1 en.2.2.2.2.1) else ax_ckM own i 2 en.2.2.1 en.2.2.2.1 en.2.2.2.2.1)
  | _ => decide (en.2.1 = 1))
theorem ax_swp_ok {J : Nat → Prop} {x : Int32} {pc : Nat} : ∀ {v : Int} {os : List Int} (h : ax_swp J x pc v os) (i : Nat) (o : Int), os[i]? = some o → x.toInt = v + i → J ((pc : Int) + o).toNat
  | v, [], h, i, o, hi, hx => by simp at hi
  | v, a :: os, h, 0, o, hi, hx => by
    simp at hi
    subst hi
    exact h.1 (by omega)
  | v, a :: os, h, i + 1, o, hi, hx => ax_swp_ok (v := v + 1) (os := os) h.2 i o (by simpa using hi) (by omega)
theorem ax_lks_ok {pc : Nat} {x dflt : Int} (hd : 0 ≤ (pc : Int) + dflt) : ∀ (ps : List (Int × Int)), (∀ q ∈ ps, 0 ≤ (pc : Int) + q.2) → 0 ≤ (pc : Int) + Op.lookupswitch.offset ps dflt x
  | [], _ => by
    have : Op.lookupswitch.offset [] dflt x = dflt := rfl
    rw [this]; exact hd
  | (a, o) :: ps, h => by
    rw [Op.lookupswitch.offset_cons]
    split
    · exact h (a, o) List.mem_cons_self
    · exact ax_lks_ok hd ps (fun q hq => h q (List.mem_cons_of_mem _ hq))
section AXS
variable {E : ax_E} {p : Program} {l : Launch} {e : Env} {R : Room} {s : State} {m : MethodId} {args : Array Value} {below : List Frame} {meth : Method} {c : Code} {cc : ByteArray} {own nL d : Nat} {Q : State → Prop}
set_option maxHeartbeats 4000000 in
theorem ax_stp_ok (X : ax_X E p R s m args meth c cc own nL d) {Ret : Option ax_V → ax_M → Prop} {rk : Nat} {ini : Bool}
    {J : Nat → ax_L → List ax_V → ax_M → Nat → Nat → Prop} (hJ : ∀ pc ls st M kc ks, J pc ls st M kc ks → ax_G E p l e R s m args below meth c nL Q pc ls st M kc ks) (hI : ini = true → meth.name = "<init>")
    (hRi : ∀ (pc : Nat) (ls : ax_L) (x : Int32) (M : ax_M) (kc ks : Nat), (rk = 0 ∨ rk = 1) → (rk = 1 → x = 0 ∨ x = 1) → (kc ≤ R.cells ∧ ks ≤ R.slots) → Ret (some (.inl x)) M → decode cc pc = .ok (.ireturn, 1) → ax_G E p l e R s m args below meth c nL Q pc ls [.inl x] M kc ks)
    (hRl : ∀ (pc : Nat) (ls : ax_L) (x : Int64) (M : ax_M) (kc ks : Nat), rk = 2 → (kc ≤ R.cells ∧ ks ≤ R.slots) → Ret (some (.inr (.inl x))) M → decode cc pc = .ok (.lreturn, 1) → ax_G E p l e R s m args below meth c nL Q pc ls [.inr (.inl x)] M kc ks)
    (hRv : ∀ (pc : Nat) (ls : ax_L) (M : ax_M) (kc ks : Nat), rk = 3 → (kc ≤ R.cells ∧ ks ≤ R.slots) → Ret none M → decode cc pc = .ok (.return_, 1) → ax_G E p l e R s m args below meth c nL Q pc ls [] M kc ks)
    {pc : Nat} {ls : ax_L} {st : List ax_V} {M : ax_M} {kc ks : Nat} {K : ax_L → List ax_V → ax_M → Nat → Nat → Prop} (en : ax_I) (hck : ax_ck own nL rk ini cc pc en = true)
    (hK : ∀ ls st M kc ks, K ls st M kc ks → ax_G E p l e R s m args below meth c nL Q (pc + en.2.1) ls st M kc ks)
    (h : ax_stp (ax_C E l d) J Ret rk R.cells R.slots en pc ls st M kc ks K) : ax_G E p l e R s m args below meth c nL Q pc ls st M kc ks := by
  obtain ⟨i, len, r1, r2, r3, r4, w, v⟩ := en
  unfold ax_ck at hck
  rw [Bool.and_eq_true] at hck
  obtain ⟨hd, hc⟩ := hck
  replace hd := of_decide_eq_true hd
  have hx := X.1
  have hb := X.2.1
  cases i
  case iconst n =>
    dsimp only at hd hc hK
    obtain ⟨rfl, hw⟩ := of_decide_eq_true hc
    replace h : K ls (.inl w :: st) M kc ks := h
    exact fun H locs la h1 h2 h3 h4 => lv_iconst hx hb hd hw (hK _ _ _ _ _ h H locs la h1 h2 h3 h4)
  case bipush n =>
    dsimp only at hd hc hK
    obtain ⟨rfl, hw⟩ := of_decide_eq_true hc
    replace h : K ls (.inl w :: st) M kc ks := h
    exact fun H locs la h1 h2 h3 h4 => lv_bipush hx hb hd hw (hK _ _ _ _ _ h H locs la h1 h2 h3 h4)
  case sipush n =>
    dsimp only at hd hc hK
    obtain ⟨rfl, hw⟩ := of_decide_eq_true hc
    replace h : K ls (.inl w :: st) M kc ks := h
    exact fun H locs la h1 h2 h3 h4 => lv_sipush hx hb hd hw (hK _ _ _ _ _ h H locs la h1 h2 h3 h4)
  case ldc n =>
    dsimp only at hd hc hK
    rw [Bool.and_eq_true] at hc
    obtain rfl := of_decide_eq_true hc.1
    replace h : K ls (.inl w :: st) M kc ks := h
    exact fun H locs la h1 h2 h3 h4 => lv_ldc hx hb X.2.2.2.1 (X.2.2.2.2.1 _ (ax_wk_mem hc.2)) hd (hK _ _ _ _ _ h H locs la h1 h2 h3 h4)
  case ldc_w n =>
    dsimp only at hd hc hK
    rw [Bool.and_eq_true] at hc
    obtain rfl := of_decide_eq_true hc.1
    replace h : K ls (.inl w :: st) M kc ks := h
    exact fun H locs la h1 h2 h3 h4 => lv_ldcw hx hb X.2.2.2.1 (X.2.2.2.2.1 _ (ax_wk_mem hc.2)) hd (hK _ _ _ _ _ h H locs la h1 h2 h3 h4)
  case lconst n =>
    dsimp only at hd hc hK
    obtain ⟨rfl, hw⟩ := of_decide_eq_true hc
    replace h : K ls (.inr (.inl v) :: st) M kc ks := h
    exact fun H locs la h1 h2 h3 h4 => lv_lconst hx hb hd hw (hK _ _ _ _ _ h H locs la h1 h2 h3 h4)
  case ldc2_w n =>
    dsimp only at hd hc hK
    rw [Bool.and_eq_true] at hc
    obtain rfl := of_decide_eq_true hc.1
    replace h : K ls (.inr (.inl v) :: st) M kc ks := h
    exact fun H locs la h1 h2 h3 h4 => lv_ldc2 hx hb X.2.2.2.1 (X.2.2.2.2.1 _ (ax_wk_mem hc.2)) hd (hK _ _ _ _ _ h H locs la h1 h2 h3 h4)
  case iload n =>
    dsimp only at hd hc hK
    obtain ⟨rfl, rfl⟩ := of_decide_eq_true hc
    dsimp only [ax_stp] at h
    split at h
    · rename_i x hl
      exact fun H locs la h1 h2 h3 h4 => lv_iload hx hb hd (ax_lv_at h4 (ax_lg_get hl)) (hK _ _ _ _ _ h H locs la h1 h2 h3 h4)
    · exact h.elim
  case iload_n n =>
    dsimp only at hd hc hK
    obtain ⟨rfl, rfl⟩ := of_decide_eq_true hc
    dsimp only [ax_stp] at h
    split at h
    · rename_i x hl
      exact fun H locs la h1 h2 h3 h4 => lv_iload_n hx hb hd rfl (ax_lv_at h4 (ax_lg_get hl)) (hK _ _ _ _ _ h H locs la h1 h2 h3 h4)
    · exact h.elim
  case lload n =>
    dsimp only at hd hc hK
    obtain ⟨rfl, rfl⟩ := of_decide_eq_true hc
    dsimp only [ax_stp] at h
    split at h
    · rename_i x hl
      exact fun H locs la h1 h2 h3 h4 => lv_lload hx hb hd (ax_lv_at h4 (ax_lg_get hl)) (hK _ _ _ _ _ h H locs la h1 h2 h3 h4)
    · exact h.elim
  case lload_n n =>
    dsimp only at hd hc hK
    obtain ⟨rfl, rfl⟩ := of_decide_eq_true hc
    dsimp only [ax_stp] at h
    split at h
    · rename_i x hl
      exact fun H locs la h1 h2 h3 h4 => lv_lload_n hx hb hd rfl (ax_lv_at h4 (ax_lg_get hl)) (hK _ _ _ _ _ h H locs la h1 h2 h3 h4)
    · exact h.elim
  case aload n =>
    dsimp only at hd hc hK
    obtain ⟨rfl, rfl⟩ := of_decide_eq_true hc
    dsimp only [ax_stp] at h
    split at h
    · rename_i x hl
      exact ax_g_aload X hd (ax_lg_get hl) (hK _ _ _ _ _ h)
    · exact h.elim
  case aload_n n =>
    dsimp only at hd hc hK
    obtain ⟨rfl, rfl⟩ := of_decide_eq_true hc
    dsimp only [ax_stp] at h
    split at h
    · rename_i x hl
      exact ax_g_aload_n X hd (ax_lg_get hl) (hK _ _ _ _ _ h)
    · exact h.elim
  case istore n =>
    dsimp only at hd hc hK
    obtain ⟨rfl, rfl, hn⟩ := of_decide_eq_true hc
    dsimp only [ax_stp] at h
    split at h
    · exact fun H locs la h1 h2 h3 h4 => lv_istore hx hb hd h4 hn rfl (fun ls' h' => hK _ _ _ _ _ h H locs ls' h1 h2 h3 (ax_lv_st1 (v := .inl _) h'))
    · exact h.elim
  case istore_n n =>
    dsimp only at hd hc hK
    obtain ⟨rfl, rfl, hn⟩ := of_decide_eq_true hc
    dsimp only [ax_stp] at h
    split at h
    · exact fun H locs la h1 h2 h3 h4 => lv_istore_n hx hb hd rfl h4 hn rfl (fun ls' h' => hK _ _ _ _ _ h H locs ls' h1 h2 h3 (ax_lv_st1 (v := .inl _) h'))
    · exact h.elim
  case lstore n =>
    dsimp only at hd hc hK
    obtain ⟨rfl, rfl, hn⟩ := of_decide_eq_true hc
    dsimp only [ax_stp] at h
    split at h
    · exact fun H locs la h1 h2 h3 h4 => lv_lstore hx hb hd h4 hn rfl (fun ls' h' => hK _ _ _ _ _ h H locs ls' h1 h2 h3 (ax_lv_st2 (v := .inr (.inl _)) h'))
    · exact h.elim
  case lstore_n n =>
    dsimp only at hd hc hK
    obtain ⟨rfl, rfl, hn⟩ := of_decide_eq_true hc
    dsimp only [ax_stp] at h
    split at h
    · exact fun H locs la h1 h2 h3 h4 => lv_lstore_n hx hb hd rfl h4 hn rfl (fun ls' h' => hK _ _ _ _ _ h H locs ls' h1 h2 h3 (ax_lv_st2 (v := .inr (.inl _)) h'))
    · exact h.elim
  case astore n =>
    dsimp only at hd hc hK
    obtain ⟨rfl, rfl, hn⟩ := of_decide_eq_true hc
    dsimp only [ax_stp] at h
    split at h
    · exact ax_g_astore X hd hn (hK _ _ _ _ _ h)
    · exact h.elim
  case astore_n n =>
    dsimp only at hd hc hK
    obtain ⟨rfl, rfl, hn⟩ := of_decide_eq_true hc
    dsimp only [ax_stp] at h
    split at h
    · exact ax_g_astore_n X hd hn (hK _ _ _ _ _ h)
    · exact h.elim
  case iinc n z =>
    dsimp only at hd hc hK
    obtain ⟨rfl, rfl, hn, rfl⟩ := of_decide_eq_true hc
    dsimp only [ax_stp] at h
    split at h
    · rename_i x hl
      exact ax_g_iinc X hd (ax_lg_get hl) hn (hK _ _ _ _ _ h)
    · exact h.elim
  case iadd =>
    dsimp only at hd hc hK
    obtain rfl := of_decide_eq_true hc
    dsimp only [ax_stp] at h
    split at h
    · exact fun H locs la h1 h2 h3 h4 => lv_iadd hx hb hd (hK _ _ _ _ _ h H locs la h1 h2 h3 h4)
    · exact h.elim
  case isub =>
    dsimp only at hd hc hK
    obtain rfl := of_decide_eq_true hc
    dsimp only [ax_stp] at h
    split at h
    · exact fun H locs la h1 h2 h3 h4 => lv_isub hx hb hd (hK _ _ _ _ _ h H locs la h1 h2 h3 h4)
    · exact h.elim
  case imul =>
    dsimp only at hd hc hK
    obtain rfl := of_decide_eq_true hc
    dsimp only [ax_stp] at h
    split at h
    · exact fun H locs la h1 h2 h3 h4 => lv_imul hx hb hd (hK _ _ _ _ _ h H locs la h1 h2 h3 h4)
    · exact h.elim
  case iand =>
    dsimp only at hd hc hK
    obtain rfl := of_decide_eq_true hc
    dsimp only [ax_stp] at h
    split at h
    · exact fun H locs la h1 h2 h3 h4 => lv_iand hx hb hd (hK _ _ _ _ _ h H locs la h1 h2 h3 h4)
    · exact h.elim
  case ior =>
    dsimp only at hd hc hK
    obtain rfl := of_decide_eq_true hc
    dsimp only [ax_stp] at h
    split at h
    · exact fun H locs la h1 h2 h3 h4 => lv_ior hx hb hd (hK _ _ _ _ _ h H locs la h1 h2 h3 h4)
    · exact h.elim
  case ixor =>
    dsimp only at hd hc hK
    obtain rfl := of_decide_eq_true hc
    dsimp only [ax_stp] at h
    split at h
    · exact fun H locs la h1 h2 h3 h4 => lv_ixor hx hb hd (hK _ _ _ _ _ h H locs la h1 h2 h3 h4)
    · exact h.elim
  case ishl =>
    dsimp only at hd hc hK
    obtain rfl := of_decide_eq_true hc
    dsimp only [ax_stp] at h
    split at h
    · exact fun H locs la h1 h2 h3 h4 => lv_ishl hx hb hd (hK _ _ _ _ _ h H locs la h1 h2 h3 h4)
    · exact h.elim
  case ishr =>
    dsimp only at hd hc hK
    obtain rfl := of_decide_eq_true hc
    dsimp only [ax_stp] at h
    split at h
    · exact fun H locs la h1 h2 h3 h4 => lv_ishr hx hb hd (hK _ _ _ _ _ h H locs la h1 h2 h3 h4)
    · exact h.elim
  case ladd =>
    dsimp only at hd hc hK
    obtain rfl := of_decide_eq_true hc
    dsimp only [ax_stp] at h
    split at h
    · exact fun H locs la h1 h2 h3 h4 => lv_ladd hx hb hd (hK _ _ _ _ _ h H locs la h1 h2 h3 h4)
    · exact h.elim
  case lsub =>
    dsimp only at hd hc hK
    obtain rfl := of_decide_eq_true hc
    dsimp only [ax_stp] at h
    split at h
    · exact fun H locs la h1 h2 h3 h4 => lv_lsub hx hb hd (hK _ _ _ _ _ h H locs la h1 h2 h3 h4)
    · exact h.elim
  case lmul =>
    dsimp only at hd hc hK
    obtain rfl := of_decide_eq_true hc
    dsimp only [ax_stp] at h
    split at h
    · exact fun H locs la h1 h2 h3 h4 => lv_lmul hx hb hd (hK _ _ _ _ _ h H locs la h1 h2 h3 h4)
    · exact h.elim
  case land =>
    dsimp only at hd hc hK
    obtain rfl := of_decide_eq_true hc
    dsimp only [ax_stp] at h
    split at h
    · exact fun H locs la h1 h2 h3 h4 => lv_land hx hb hd (hK _ _ _ _ _ h H locs la h1 h2 h3 h4)
    · exact h.elim
  case ineg =>
    dsimp only at hd hc hK
    obtain rfl := of_decide_eq_true hc
    dsimp only [ax_stp] at h
    split at h
    · exact fun H locs la h1 h2 h3 h4 => lv_ineg hx hb hd (hK _ _ _ _ _ h H locs la h1 h2 h3 h4)
    · exact h.elim
  case lneg =>
    dsimp only at hd hc hK
    obtain rfl := of_decide_eq_true hc
    dsimp only [ax_stp] at h
    split at h
    · exact fun H locs la h1 h2 h3 h4 => lv_lneg hx hb hd (hK _ _ _ _ _ h H locs la h1 h2 h3 h4)
    · exact h.elim
  case iushr =>
    dsimp only at hd hc hK
    obtain rfl := of_decide_eq_true hc
    dsimp only [ax_stp] at h
    split at h
    · exact fun H locs la h1 h2 h3 h4 => lv_iushr hx hb hd rfl (hK _ _ _ _ _ h H locs la h1 h2 h3 h4)
    · exact h.elim
  case i2l =>
    dsimp only at hd hc hK
    obtain rfl := of_decide_eq_true hc
    dsimp only [ax_stp] at h
    split at h
    · exact fun H locs la h1 h2 h3 h4 => lv_i2l hx hb hd rfl (hK _ _ _ _ _ h H locs la h1 h2 h3 h4)
    · exact h.elim
  case l2i =>
    dsimp only at hd hc hK
    obtain rfl := of_decide_eq_true hc
    dsimp only [ax_stp] at h
    split at h
    · exact fun H locs la h1 h2 h3 h4 => lv_l2i hx hb hd rfl (hK _ _ _ _ _ h H locs la h1 h2 h3 h4)
    · exact h.elim
  case lcmp =>
    dsimp only at hd hc hK
    obtain rfl := of_decide_eq_true hc
    dsimp only [ax_stp] at h
    split at h
    · exact fun H locs la h1 h2 h3 h4 => W.lcmp hx hb hd (hK _ _ _ _ _ h H locs la h1 h2 h3 h4)
    · exact h.elim
  case idiv =>
    dsimp only at hd hc hK
    obtain rfl := of_decide_eq_true hc
    dsimp only [ax_stp] at h
    split at h
    · exact fun H locs la h1 h2 h3 h4 => lv_idiv hx hb hd h.1 (hK _ _ _ _ _ h.2 H locs la h1 h2 h3 h4)
    · exact h.elim
  case irem =>
    dsimp only at hd hc hK
    obtain rfl := of_decide_eq_true hc
    dsimp only [ax_stp] at h
    split at h
    · exact fun H locs la h1 h2 h3 h4 => lv_irem hx hb hd h.1 (hK _ _ _ _ _ h.2 H locs la h1 h2 h3 h4)
    · exact h.elim
  case ldiv =>
    dsimp only at hd hc hK
    obtain rfl := of_decide_eq_true hc
    dsimp only [ax_stp] at h
    split at h
    · exact fun H locs la h1 h2 h3 h4 => lv_ldiv hx hb hd h.1 (hK _ _ _ _ _ h.2 H locs la h1 h2 h3 h4)
    · exact h.elim
  case lrem =>
    dsimp only at hd hc hK
    obtain rfl := of_decide_eq_true hc
    dsimp only [ax_stp] at h
    split at h
    · exact fun H locs la h1 h2 h3 h4 => lv_lrem hx hb hd h.1 (hK _ _ _ _ _ h.2 H locs la h1 h2 h3 h4)
    · exact h.elim
  case dup =>
    dsimp only at hd hc hK
    obtain rfl := of_decide_eq_true hc
    dsimp only [ax_stp] at h
    split at h
    · exact fun H locs la h1 h2 h3 h4 => lv_dup hx hb hd (by rw [ax_cat_cv]; exact h.1) (hK _ _ _ _ _ h.2 H locs la h1 h2 h3 h4)
    · exact h.elim
  case dup2 =>
    dsimp only at hd hc hK
    obtain rfl := of_decide_eq_true hc
    dsimp only [ax_stp] at h
    split at h
    · exact fun H locs la h1 h2 h3 h4 => lv_dup2_11 hx hb hd (by rw [ax_cat_cv]; exact h.1) (by rw [ax_cat_cv]; exact h.2.1) (hK _ _ _ _ _ h.2.2 H locs la h1 h2 h3 h4)
    · exact h.elim
  case pop =>
    dsimp only at hd hc hK
    obtain rfl := of_decide_eq_true hc
    dsimp only [ax_stp] at h
    split at h
    · exact fun H locs la h1 h2 h3 h4 => lv_pop hx hb hd (by rw [ax_cat_cv]; exact h.1) (hK _ _ _ _ _ h.2 H locs la h1 h2 h3 h4)
    · exact h.elim
  case goto o =>
    dsimp only at hd hc hK
    obtain ⟨rfl, ht⟩ := of_decide_eq_true hc
    replace h : J r1 ls st M kc ks := h
    exact fun H locs la h1 h2 h3 h4 => lv_goto hx hb hd ht (hJ _ _ _ _ _ _ h H locs la h1 h2 h3 h4)
  case ifCond k o =>
    dsimp only at hd hc hK
    obtain ⟨rfl, ht⟩ := of_decide_eq_true hc
    dsimp only [ax_stp] at h
    split at h
    · obtain ⟨ha, hb'⟩ := h
      intro H locs la h1 h2 h3 h4
      cases k
      · exact lv_if_eq hx hb hd ht (fun q => hJ _ _ _ _ _ _ (ha q) H locs la h1 h2 h3 h4) (fun q => hK _ _ _ _ _ (hb' q) H locs la h1 h2 h3 h4)
      · exact lv_if_ne hx hb hd ht (fun q => hJ _ _ _ _ _ _ (ha q) H locs la h1 h2 h3 h4) (fun q => hK _ _ _ _ _ (hb' (fun z => z q)) H locs la h1 h2 h3 h4)
      · exact lv_if_lt hx hb hd ht (fun q => hJ _ _ _ _ _ _ (ha q) H locs la h1 h2 h3 h4) (fun q => hK _ _ _ _ _ (hb' q) H locs la h1 h2 h3 h4)
      · exact lv_if_ge hx hb hd ht (fun q => hJ _ _ _ _ _ _ (ha q) H locs la h1 h2 h3 h4) (fun q => hK _ _ _ _ _ (hb' q) H locs la h1 h2 h3 h4)
      · exact lv_if_gt hx hb hd ht (fun q => hJ _ _ _ _ _ _ (ha q) H locs la h1 h2 h3 h4) (fun q => hK _ _ _ _ _ (hb' q) H locs la h1 h2 h3 h4)
      · exact lv_if_le hx hb hd ht (fun q => hJ _ _ _ _ _ _ (ha q) H locs la h1 h2 h3 h4) (fun q => hK _ _ _ _ _ (hb' q) H locs la h1 h2 h3 h4)
    · exact h.elim
  case if_icmp k o =>
    dsimp only at hd hc hK
    obtain ⟨rfl, ht⟩ := of_decide_eq_true hc
    dsimp only [ax_stp] at h
    split at h
    · obtain ⟨ha, hb'⟩ := h
      intro H locs la h1 h2 h3 h4
      cases k
      · exact lv_icmp_eq hx hb hd ht (fun q => hJ _ _ _ _ _ _ (ha q) H locs la h1 h2 h3 h4) (fun q => hK _ _ _ _ _ (hb' q) H locs la h1 h2 h3 h4)
      · exact lv_icmp_ne hx hb hd ht (fun q => hJ _ _ _ _ _ _ (ha q) H locs la h1 h2 h3 h4) (fun q => hK _ _ _ _ _ (hb' (fun z => z q)) H locs la h1 h2 h3 h4)
      · exact lv_icmp_lt hx hb hd ht (fun q => hJ _ _ _ _ _ _ (ha q) H locs la h1 h2 h3 h4) (fun q => hK _ _ _ _ _ (hb' q) H locs la h1 h2 h3 h4)
      · exact lv_icmp_ge hx hb hd ht (fun q => hJ _ _ _ _ _ _ (ha q) H locs la h1 h2 h3 h4) (fun q => hK _ _ _ _ _ (hb' q) H locs la h1 h2 h3 h4)
      · exact lv_icmp_gt hx hb hd ht (fun q => hJ _ _ _ _ _ _ (ha q) H locs la h1 h2 h3 h4) (fun q => hK _ _ _ _ _ (hb' q) H locs la h1 h2 h3 h4)
      · exact lv_icmp_le hx hb hd ht (fun q => hJ _ _ _ _ _ _ (ha q) H locs la h1 h2 h3 h4) (fun q => hK _ _ _ _ _ (hb' q) H locs la h1 h2 h3 h4)
    · exact h.elim
  case tableswitch dflt lo hi offs =>
    dsimp only at hd hc hK
    simp only [Bool.and_eq_true, decide_eq_true_eq, List.all_eq_true] at hc
    obtain ⟨⟨ht, hsz⟩, hall⟩ := hc
    dsimp only [ax_stp] at h
    split at h
    · rename_i x st'
      obtain ⟨ha, hs⟩ := h
      intro H locs la h1 h2 h3 h4
      by_cases hout : x.toInt < lo ∨ hi < x.toInt
      · exact lv_tableOut hx hb hd hout ht (hJ _ _ _ _ _ _ (ha hout) H locs la h1 h2 h3 h4)
      · have hlo : ¬ x.toInt < lo := fun q => hout (Or.inl q)
        have hhi : ¬ hi < x.toInt := fun q => hout (Or.inr q)
        have hlt : (x.toInt - lo).toNat < offs.size := by omega
        have ho : offs[(x.toInt - lo).toNat]? = some (offs[(x.toInt - lo).toNat]'hlt) := Array.getElem?_eq_getElem hlt
        have hn := hall _ (Array.mem_toList_iff.mpr (Array.getElem_mem hlt))
        exact lv_tableIn (tgt := ((pc : Int) + offs[(x.toInt - lo).toNat]'hlt).toNat) hx hb hd hlo hhi ho (by omega) (hJ _ _ _ _ _ _ (ax_swp_ok hs (x.toInt - lo).toNat _ (by rw [Array.getElem?_toList]; exact ho) (by omega)) H locs la h1 h2 h3 h4)
    · exact h.elim
  case lookupswitch dflt ps =>
    dsimp only at hd hc hK
    simp only [Bool.and_eq_true, decide_eq_true_eq] at hc
    obtain ⟨⟨h0, hall⟩, hsort⟩ := hc
    dsimp only [ax_stp] at h
    split at h
    · rename_i x st'
      intro H locs la h1 h2 h3 h4
      have hn := ax_lks_ok (x := x.toInt) h0 ps.toList (fun q hq => of_decide_eq_true (List.all_eq_true.mp hall q hq))
      exact lv_lookup (tgt := ((pc : Int) + Op.lookupswitch.offset ps.toList dflt x.toInt).toNat) hx hb hd hsort rfl (by omega) (hJ _ _ _ _ _ _ (h _ (by omega)) H locs la h1 h2 h3 h4)
    · exact h.elim
  case ireturn =>
    dsimp only at hd hc hK
    obtain ⟨rfl, hrk⟩ := of_decide_eq_true hc
    dsimp only [ax_stp] at h
    split at h
    · exact hRi _ _ _ _ _ _ hrk h.1 h.2.1 h.2.2 hd
    · exact h.elim
  case lreturn =>
    dsimp only at hd hc hK
    obtain ⟨rfl, hrk⟩ := of_decide_eq_true hc
    dsimp only [ax_stp] at h
    split at h
    · exact hRl _ _ _ _ _ _ hrk h.1 h.2 hd
    · exact h.elim
  case return_ =>
    dsimp only at hd hc hK
    obtain ⟨rfl, hrk⟩ := of_decide_eq_true hc
    dsimp only [ax_stp] at h
    split at h
    · exact hRv _ _ _ _ _ hrk h.1 h.2 hd
    · exact h.elim
  case getfield n =>
    dsimp only at hd hc hK
    rw [Bool.and_eq_true] at hc
    obtain ⟨rfl, hkd⟩ := of_decide_eq_true hc.1
    obtain ⟨a, hq⟩ := ax_ckF_t hc.2
    dsimp only [ax_stp] at h
    split at h
    · subst hkd
      exact ax_g_get X hq h.1 hd (hK _ _ _ _ _ h.2)
    · exact h.elim
  case putfield n =>
    dsimp only at hd hc hK
    simp only [Bool.and_eq_true, decide_eq_true_eq, Bool.or_eq_true] at hc
    obtain ⟨⟨⟨rfl, hkd⟩, hf⟩, hfin⟩ := hc
    obtain ⟨a, hq⟩ := ax_ckF_t hf
    have hfin' : (ax_cl[r1]?).map (fun r => (r.2.1 r2).2.2.2) = some false ∨ (meth.name = "<init>" ∧ own = r1) := hfin.imp id (fun z => ⟨hI z.1, z.2⟩)
    dsimp only [ax_stp] at h
    split at h
    · subst hkd
      exact ax_g_put X (v := .inl _) hq h.1 h.2.1 hfin' hd (hK _ _ _ _ _ h.2.2)
    · subst hkd
      exact ax_g_put X (v := .inr (.inr _)) hq h.1 h.2.1 hfin' hd (hK _ _ _ _ _ h.2.2)
    · exact h.elim
  case iaload =>
    dsimp only at hd hc hK
    obtain rfl := of_decide_eq_true hc
    dsimp only [ax_stp] at h
    split at h
    · obtain ⟨h0 | h0, h1⟩ := h
      · exact ax_g_iald X h0.2.1 h0.2.2 hd (hK _ _ _ _ _ h1)
      · exact ax_g_xald X h0.1 h0.2 hd (hK _ _ _ _ _ h1)
    · exact h.elim
  case baload =>
    dsimp only at hd hc hK
    obtain rfl := of_decide_eq_true hc
    dsimp only [ax_stp] at h
    split at h
    · exact ax_g_zald X h.1.1 h.1.2 hd (hK _ _ _ _ _ h.2)
    · exact h.elim
  case laload =>
    dsimp only at hd hc hK
    obtain rfl := of_decide_eq_true hc
    dsimp only [ax_stp] at h
    split at h
    · exact ax_g_lald X h.1.1 h.1.2 hd (hK _ _ _ _ _ h.2)
    · exact h.elim
  case iastore =>
    dsimp only at hd hc hK
    obtain rfl := of_decide_eq_true hc
    dsimp only [ax_stp] at h
    split at h
    · exact ax_g_iast X h.1.1 h.1.2 hd (hK _ _ _ _ _ h.2)
    · exact h.elim
  case bastore =>
    dsimp only at hd hc hK
    obtain rfl := of_decide_eq_true hc
    dsimp only [ax_stp] at h
    split at h
    · exact ax_g_zast X h.1.1 h.1.2 h.2.1 hd (hK _ _ _ _ _ h.2.2)
    · exact h.elim
  case lastore =>
    dsimp only at hd hc hK
    obtain rfl := of_decide_eq_true hc
    dsimp only [ax_stp] at h
    split at h
    · exact ax_g_last X h.1.1 h.1.2 hd (hK _ _ _ _ _ h.2)
    · exact h.elim
  case arraylength =>
    dsimp only at hd hc hK
    obtain rfl := of_decide_eq_true hc
    dsimp only [ax_stp] at h
    split at h
    · exact ax_g_alen X h.2.1 h.1 hd (hK _ _ _ _ _ h.2.2)
    · exact h.elim
  case new n =>
    dsimp only at hd hc hK
    rw [Bool.and_eq_true] at hc
    obtain rfl := of_decide_eq_true hc.1
    obtain ⟨a, b, c', r, hq, hr, rfl⟩ := ax_ckN_t hc.2
    dsimp only [ax_stp] at h
    split at h
    · rename_i n' hM
      exact ax_g_new X hq hr hM h.1 h.2.1 hd (hK _ _ _ _ _ h.2.2)
    · exact h.elim
  case newarray a =>
    dsimp only at hd hc hK
    rw [Bool.and_eq_true] at hc
    obtain ⟨hlen, hc⟩ := hc
    obtain rfl := of_decide_eq_true hlen
    dsimp only [ax_stp] at h
    split at h
    · rename_i n' x st' hM
      cases a <;> dsimp only at hc <;> first | cases hc | skip
      · obtain rfl := of_decide_eq_true hc
        exact ax_g_newa X ax_w_a1 (Or.inr (Or.inl ⟨rfl, rfl⟩)) hM h.1 h.2.1.1 h.2.1.2 h.2.2.1 hd (hK _ _ _ _ _ h.2.2.2)
      · obtain rfl := of_decide_eq_true hc
        exact ax_g_newa X ax_w_a0 (Or.inl ⟨rfl, rfl⟩) hM h.1 h.2.1.1 h.2.1.2 h.2.2.1 hd (hK _ _ _ _ _ h.2.2.2)
      · obtain rfl := of_decide_eq_true hc
        exact ax_g_newa X ax_w_a2 (Or.inr (Or.inr ⟨rfl, rfl⟩)) hM h.1 h.2.1.1 h.2.1.2 h.2.2.1 hd (hK _ _ _ _ _ h.2.2.2)
    · exact h.elim
  case invokevirtual n =>
    dsimp only at hd hc hK
    rw [Bool.and_eq_true] at hc
    obtain ⟨rfl, hci⟩ := of_decide_eq_true hc.1
    obtain ⟨p1, p2, p3, p4, hq⟩ := ax_ckM_t hc.2
    dsimp only [ax_stp] at h
    split at h
    · rename_i as k st' hp
      obtain ⟨pp, g1, g2, g3⟩ := ax_pop_eq hp
      rw [List.append_nil] at g3
      subst g3
      rw [g2]
      exact ax_g_callV X hq g1 (hci ▸ h.1) h.2.1 h.2.2.1 (h.2.2.2.mono (fun v M' q => hK _ _ _ _ _ q)) hd
    · exact h.elim
  case invokestatic n =>
    dsimp only at hd hc hK
    rw [Bool.and_eq_true] at hc
    obtain ⟨hlen, hc⟩ := hc
    obtain rfl := of_decide_eq_true hlen
    dsimp only [ax_stp] at h
    by_cases h9 : r4 = 9
    · rw [if_pos h9] at h hc
      split at h
      · obtain ⟨g1, g2, g3, g4, g5, g6, g7⟩ := h
        exact ax_g_copy X hc ax_w_cn ax_w_cs ax_w_ci g1 g2 g3.1 g3.2.1 g3.2.2 g4 g5 g6 hd (hK _ _ _ _ _ g7)
      · exact h.elim
    · rw [if_neg h9] at h hc
      obtain ⟨p1, p2, p3, p4, hq⟩ := ax_ckM_t hc
      split at h
      · rename_i as st' hp
        obtain ⟨pp, g1, g2, g3⟩ := ax_pop_eq hp
        rw [List.append_nil] at g3
        subst g3
        rw [g2]
        exact ax_g_callS X hq g1 h.1 h.2.1 (h.2.2.mono (fun v M' q => hK _ _ _ _ _ q)) hd
      · exact h.elim
  case invokespecial n =>
    dsimp only at hd hc hK
    rw [Bool.and_eq_true] at hc
    obtain ⟨hlen, hc⟩ := hc
    obtain rfl := of_decide_eq_true hlen
    dsimp only [ax_stp] at h
    by_cases h3 : r4 = 3
    · rw [if_pos h3] at h hc
      split at h
      · exact ax_g_obj X hc ax_w_oi ax_w_oc h.1 h.2.1 hd (hK _ _ _ _ _ h.2.2)
      · exact h.elim
    · rw [if_neg h3] at h hc
      split at h
      · rename_i as k st' hp
        obtain ⟨pp, g1, g2, g3⟩ := ax_pop_eq hp
        rw [List.append_nil] at g3
        subst g3
        rw [g2]
        by_cases h4 : r4 = 4
        · rw [if_pos h4] at hc
          simp only [Bool.and_eq_true, decide_eq_true_eq] at hc
          obtain ⟨h0, ht⟩ := hc
          obtain ⟨a, b, hm⟩ := ax_ckT_t ht
          have hs := List.all_eq_true.mp ax_nst_ok _ hm
          unfold ax_nsc at hs
          simp only [Bool.and_eq_true, decide_eq_true_eq] at hs
          obtain ⟨⟨⟨⟨⟨⟨w1, w2⟩, w3⟩, w4⟩, w5⟩, w6⟩, w7⟩ := hs
          have hpp : as = [] := List.eq_nil_of_length_eq_zero (g1.trans h0)
          subst hpp
          intro H locs la h1 h2 h3' h4'
          exact ax_g_callN X (X.2.2.2.2.2.2.1.2.2 s H h2 _ (ax_nst_w _ hm)) w1 w2 w3 w4 w5 w6 w7 h.1 h.2.1 h.2.2.1 (h.2.2.2.mono (fun v M' q => hK _ _ _ _ _ q)) hd H locs la h1 h2 h3' h4'
        · rw [if_neg h4] at hc
          obtain ⟨p1, p2, p3, p4, hq⟩ := ax_ckM_t hc
          exact ax_g_callI X hq g1 h.1 h.2.1 h.2.2.1 (h.2.2.2.mono (fun v M' q => hK _ _ _ _ _ q)) hd
      · exact h.elim
  all_goals exact False.elim h
end AXS
