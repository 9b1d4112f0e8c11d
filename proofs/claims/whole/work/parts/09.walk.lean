/-! runs of instructions; a method's goal with the machine out of sight -/
def ax_wp (Call : Nat → List ax_V → ax_M → (Option ax_V → ax_M → Prop) → Prop) (J : Nat → ax_L → List ax_V → ax_M → Nat → Nat → Prop) (Ret : Option ax_V → ax_M → Prop) (rk RC RS : Nat) : List ax_I → Nat → ax_L → List ax_V → ax_M → Nat → Nat → Prop
  | [], pc, ls, st, M, kc, ks => J pc ls st M kc ks
  | en :: is, pc, ls, st, M, kc, ks => ax_stp Call J Ret rk RC RS en pc ls st M kc ks (fun ls st M kc ks => ax_wp Call J Ret rk RC RS is (pc + en.2.1) ls st M kc ks)
def ax_ckl (own nL rk : Nat) (ini : Bool) (cc : ByteArray) : List ax_I → Nat → Bool
  | [], _ => true
  | en :: is, pc => ax_ck own nL rk ini cc pc en && ax_ckl own nL rk ini cc is (pc + en.2.1)
def ax_rk : Option FieldType → Nat
  | some .int => 0
  | some .boolean => 1
  | some .long => 2
  | none => 3
  | _ => 4
def ax_ow (mi : Nat) : Nat := if (ax_mu mi).2.2.2.2.1 = 99 then (if (ax_mu mi).1.cls = "java/lang/Integer" then 13 else 14) else (ax_mu mi).2.2.2.2.1
/-- the goal at a place of a method -/
def ax_T (E : ax_E) (l : Launch) (d mi : Nat) (Ret : Option ax_V → ax_M → Prop) (pc : Nat) (ls : ax_L) (st : List ax_V) (M : ax_M) (kc ks : Nat) : Prop :=
  ∀ (p : Program) (e : Env) (s : State) (m : MethodId) (args : Array Value) (below : List Frame) (meth : Method) (c : Code), ax_X E p (ax_rm (d + 1) (ax_mu mi).2.2.2.2.2.1 (ax_mu mi).2.2.2.2.2.2) s m args meth c (ax_mu mi).2.1 (ax_ow mi) (ax_mu mi).2.2.1 d → meth.sig.returnType = (ax_mu mi).2.2.2.1 → meth.name = (ax_mu mi).1.name →
    ax_G E p l e (ax_rm (d + 1) (ax_mu mi).2.2.2.2.2.1 (ax_mu mi).2.2.2.2.2.2) s m args below meth c (ax_mu mi).2.2.1 (MQ below (ax_Q E Ret) args s (ax_mu mi).2.2.2.2.2.1 (ax_mu mi).2.2.2.2.2.2 (ax_A E)) pc ls st M kc ks
def ax_ckm (mi : Nat) (is : List ax_I) (pc : Nat) : Bool := ax_ckl (ax_ow mi) (ax_mu mi).2.2.1 (ax_rk (ax_mu mi).2.2.2.1) (decide ((ax_mu mi).1.name = "<init>")) (ax_mu mi).2.1 is pc
theorem ax_wp_ok {E : ax_E} {l : Launch} {d mi : Nat} {Ret : Option ax_V → ax_M → Prop} : ∀ (is : List ax_I) {pc : Nat} {ls : ax_L} {st : List ax_V} {M : ax_M} {kc ks : Nat}, ax_ckm mi is pc = true →
    ax_wp (ax_C E l d) (ax_T E l d mi Ret) Ret (ax_rk (ax_mu mi).2.2.2.1) (ax_mu mi).2.2.2.2.2.1 (ax_mu mi).2.2.2.2.2.2 is pc ls st M kc ks → ax_T E l d mi Ret pc ls st M kc ks
  | [], pc, ls, st, M, kc, ks, _, h => h
  | en :: is, pc, ls, st, M, kc, ks, hck, h => by
    have hck' : (ax_ck (ax_ow mi) (ax_mu mi).2.2.1 (ax_rk (ax_mu mi).2.2.2.1) (decide ((ax_mu mi).1.name = "<init>")) (ax_mu mi).2.1 pc en && ax_ckm mi is (pc + en.2.1)) = true := hck
    rw [Bool.and_eq_true] at hck'
    intro p e s m args below meth c X hr hn
    refine ax_stp_ok X (fun pc ls st M kc ks q => q p e s m args below meth c X hr hn) (fun q => by rw [hn]; exact of_decide_eq_true q) ?_ ?_ ?_ en hck'.1 (fun ls st M kc ks q => ax_wp_ok is hck'.2 q p e s m args below meth c X hr hn) h
    · intro pc ls x M kc ks hrk h01 hk hq hd
      rcases hrt : (ax_mu mi).2.2.2.1 with _ | ty
      · rw [hrt] at hrk; simp [ax_rk] at hrk
      · rw [hrt] at hrk h01 hr
        cases ty <;> simp only [ax_rk] at hrk h01
        all_goals first | (exfalso; omega) | (exact ax_g_iret X hr rfl hk hq hd) | (exact ax_g_iret X hr (by rcases h01 trivial with h | h <;> subst h <;> decide) hk hq hd) | (exact ax_g_iret X hr (by rcases h01 rfl with h | h <;> subst h <;> decide) hk hq hd)
    · intro pc ls x M kc ks hrk hk hq hd
      rcases hrt : (ax_mu mi).2.2.2.1 with _ | ty
      · rw [hrt] at hrk; simp [ax_rk] at hrk
      · rw [hrt] at hrk hr
        cases ty <;> simp only [ax_rk] at hrk
        all_goals first | (exfalso; omega) | (exact ax_g_lret X hr hk hq hd)
    · intro pc ls M kc ks hrk hk hq hd
      rcases hrt : (ax_mu mi).2.2.2.1 with _ | ty
      · rw [hrt] at hr
        exact ax_g_vret X hr hk hq hd
      · rw [hrt] at hrk
        cases ty <;> simp only [ax_rk] at hrk
        all_goals (exfalso; omega)
theorem ax_go {E : ax_E} {l : Launch} {d mi : Nat} {as : List ax_V} {M : ax_M} {Q : Option ax_V → ax_M → Prop} (hok : ax_Xok E) (hw : (plainName (ax_mu mi).1.cls && decide (ax_cn.getD (ax_ow mi) "" = (ax_mu mi).1.cls) && decide (ax_sz as ≤ (ax_mu mi).2.2.1)) = true) (h : ax_T E l d mi Q 0 (ax_ent as ++ List.replicate ((ax_mu mi).2.2.1 - ax_sz as) none) [] M 0 0) : ax_C E l (d + 1) mi as M Q := by
  simp only [Bool.and_eq_true, decide_eq_true_eq] at hw
  exact ax_intro hok hw.1.1 hw.1.2 hw.2 h
theorem ax_T_sub {E : ax_E} {l : Launch} {d mi : Nat} {Ret : Option ax_V → ax_M → Prop} {pc : Nat} {ls ls' : ax_L} {st : List ax_V} {M : ax_M} {kc ks : Nat} (hs : ∀ (i : Nat) (v : ax_V), ls'[i]? = some (some v) → ls[i]? = some (some v)) (h : ax_T E l d mi Ret pc ls' st M kc ks) : ax_T E l d mi Ret pc ls st M kc ks :=
  fun p e s m args below meth c X hr hn => ax_g_sub hs (h p e s m args below meth c X hr hn)
