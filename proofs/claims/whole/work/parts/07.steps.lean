/-! one instruction, and a run of them: what must hold ahead of it (Call: contracts; J: the goal at a place; Ret: what the method promises) -/
abbrev ax_I : Type := Instr × Nat × Nat × Nat × Nat × Nat × Int32 × Int64
def ax_lg : ax_L → Nat → Option ax_V
  | [], _ => none
  | a :: _, 0 => a
  | _ :: t, i + 1 => ax_lg t i
theorem ax_lg_get : ∀ {ls : ax_L} {i : Nat} {v : ax_V}, ax_lg ls i = some v → ls[i]? = some (some v)
  | [], i, v, h => by cases h
  | a :: t, 0, v, h => by simp only [ax_lg] at h; simp [h]
  | a :: t, i + 1, v, h => by
    simp only [ax_lg] at h
    simpa using ax_lg_get h
def ax_pop : Nat → List ax_V → List ax_V → Option (List ax_V × List ax_V)
  | 0, acc, st => some (acc, st)
  | _ + 1, _, [] => none
  | n + 1, acc, v :: st => ax_pop n (v :: acc) st
theorem ax_pop_eq : ∀ {n : Nat} {acc st as r : List ax_V}, ax_pop n acc st = some (as, r) → ∃ pp : List ax_V, pp.length = n ∧ st = pp.reverse ++ r ∧ as = pp ++ acc
  | 0, acc, st, as, r, h => by
    simp only [ax_pop, Option.some.injEq, Prod.mk.injEq] at h
    obtain ⟨h1, h2⟩ := h
    subst h1; subst h2
    exact ⟨[], rfl, rfl, rfl⟩
  | n + 1, acc, [], as, r, h => by simp [ax_pop] at h
  | n + 1, acc, v :: st, as, r, h => by
    simp only [ax_pop] at h
    obtain ⟨pp, h1, h2, h3⟩ := ax_pop_eq h
    exact ⟨pp ++ [v], by simp [h1], by simp [h2], by simp [h3]⟩
def ax_c0 (c : Jvm.ClassFile.Cond) (x : Int32) : Prop := match c with
  | .eq => x = 0
  | .ne => ¬ x = 0
  | .lt => x < 0
  | .ge => 0 ≤ x
  | .gt => 0 < x
  | .le => x ≤ 0
def ax_c2 (c : Jvm.ClassFile.Cond) (x y : Int32) : Prop := match c with
  | .eq => x = y
  | .ne => ¬ x = y
  | .lt => x < y
  | .ge => y ≤ x
  | .gt => y < x
  | .le => x ≤ y
def ax_swp (J : Nat → Prop) (x : Int32) (pc : Nat) : Int → List Int → Prop
  | _, [] => True
  | v, o :: os => (x.toInt = v → J ((pc : Int) + o).toNat) ∧ ax_swp J x pc (v + 1) os
def ax_stp (Call : Nat → List ax_V → ax_M → (Option ax_V → ax_M → Prop) → Prop) (J : Nat → ax_L → List ax_V → ax_M → Nat → Nat → Prop) (Ret : Option ax_V → ax_M → Prop) (rk RC RS : Nat) (en : ax_I) (pc : Nat) (ls : ax_L) (st : List ax_V) (M : ax_M) (kc ks : Nat) (K : ax_L → List ax_V → ax_M → Nat → Nat → Prop) : Prop :=
  match en.1 with
  | .iconst _ | .bipush _ | .sipush _ | .ldc _ | .ldc_w _ => K ls (.inl en.2.2.2.2.2.2.1 :: st) M kc ks
  | .lconst _ | .ldc2_w _ => K ls (.inr (.inl en.2.2.2.2.2.2.2) :: st) M kc ks
  | .iload _ | .iload_n _ => match ax_lg ls en.2.2.1 with
    | some (.inl x) => K ls (.inl x :: st) M kc ks
    | _ => False
  | .lload _ | .lload_n _ => match ax_lg ls en.2.2.1 with
    | some (.inr (.inl x)) => K ls (.inr (.inl x) :: st) M kc ks
    | _ => False
  | .aload _ | .aload_n _ => match ax_lg ls en.2.2.1 with
    | some (.inr (.inr x)) => K ls (.inr (.inr x) :: st) M kc ks
    | _ => False
  | .istore _ | .istore_n _ => match st with
    | .inl x :: st => K (ax_st1 ls en.2.2.1 (.inl x)) st M kc ks
    | _ => False
  | .lstore _ | .lstore_n _ => match st with
    | .inr (.inl x) :: st => K (ax_st2 ls en.2.2.1 (.inr (.inl x))) st M kc ks
    | _ => False
  | .astore _ | .astore_n _ => match st with
    | .inr (.inr x) :: st => K (ax_st1 ls en.2.2.1 (.inr (.inr x))) st M kc ks
    | _ => False
  | .iinc _ _ => match ax_lg ls en.2.2.1 with
    | some (.inl x) => K (ax_st1 ls en.2.2.1 (.inl (x + en.2.2.2.2.2.2.1))) st M kc ks
    | _ => False
  | .iadd => match st with
    | .inl y :: .inl x :: st => K ls (.inl (x + y) :: st) M kc ks
    | _ => False
  | .isub => match st with
    | .inl y :: .inl x :: st => K ls (.inl (x - y) :: st) M kc ks
    | _ => False
  | .imul => match st with
    | .inl y :: .inl x :: st => K ls (.inl (x * y) :: st) M kc ks
    | _ => False
  | .iand => match st with
    | .inl y :: .inl x :: st => K ls (.inl (x &&& y) :: st) M kc ks
    | _ => False
  | .ior => match st with
    | .inl y :: .inl x :: st => K ls (.inl (x ||| y) :: st) M kc ks
    | _ => False
  | .ixor => match st with
    | .inl y :: .inl x :: st => K ls (.inl (x ^^^ y) :: st) M kc ks
    | _ => False
  | .ishl => match st with
    | .inl y :: .inl x :: st => K ls (.inl (x <<< (y &&& 31)) :: st) M kc ks
    | _ => False
  | .ishr => match st with
    | .inl y :: .inl x :: st => K ls (.inl (x >>> (y &&& 31)) :: st) M kc ks
    | _ => False
  | .iushr => match st with
    | .inl y :: .inl x :: st => K ls (.inl ((x.toUInt32 >>> (y.toUInt32 &&& Int32.toUInt32 31)).toInt32) :: st) M kc ks
    | _ => False
  | .ladd => match st with
    | .inr (.inl y) :: .inr (.inl x) :: st => K ls (.inr (.inl (x + y)) :: st) M kc ks
    | _ => False
  | .lsub => match st with
    | .inr (.inl y) :: .inr (.inl x) :: st => K ls (.inr (.inl (x - y)) :: st) M kc ks
    | _ => False
  | .lmul => match st with
    | .inr (.inl y) :: .inr (.inl x) :: st => K ls (.inr (.inl (x * y)) :: st) M kc ks
    | _ => False
  | .land => match st with
    | .inr (.inl y) :: .inr (.inl x) :: st => K ls (.inr (.inl (x &&& y)) :: st) M kc ks
    | _ => False
  | .idiv => match st with
    | .inl y :: .inl x :: st => ¬ y = 0 ∧ K ls (.inl (x / y) :: st) M kc ks
    | _ => False
  | .irem => match st with
    | .inl y :: .inl x :: st => ¬ y = 0 ∧ K ls (.inl (x - x / y * y) :: st) M kc ks
    | _ => False
  | .ldiv => match st with
    | .inr (.inl y) :: .inr (.inl x) :: st => ¬ y = 0 ∧ K ls (.inr (.inl (x / y)) :: st) M kc ks
    | _ => False
  | .lrem => match st with
    | .inr (.inl y) :: .inr (.inl x) :: st => ¬ y = 0 ∧ K ls (.inr (.inl (x - x / y * y)) :: st) M kc ks
    | _ => False
  | .ineg => match st with
    | .inl x :: st => K ls (.inl (-x) :: st) M kc ks
    | _ => False
  | .lneg => match st with
    | .inr (.inl x) :: st => K ls (.inr (.inl (-x)) :: st) M kc ks
    | _ => False
  | .lcmp => match st with
    | .inr (.inl y) :: .inr (.inl x) :: st => K ls (.inl (lg_cmp x y) :: st) M kc ks
    | _ => False
  | .i2l => match st with
    | .inl x :: st => K ls (.inr (.inl x.toInt64) :: st) M kc ks
    | _ => False
  | .l2i => match st with
    | .inr (.inl x) :: st => K ls (.inl x.toInt32 :: st) M kc ks
    | _ => False
  | .dup => match st with
    | v :: st => ax_cat v = 1 ∧ K ls (v :: v :: st) M kc ks
    | _ => False
  | .dup2 => match st with
    | v :: w :: st => ax_cat v = 1 ∧ ax_cat w = 1 ∧ K ls (v :: w :: v :: w :: st) M kc ks
    | _ => False
  | .pop => match st with
    | v :: st => ax_cat v = 1 ∧ K ls st M kc ks
    | _ => False
  | .goto _ => J en.2.2.1 ls st M kc ks
  | .ifCond c _ => match st with
    | .inl x :: st => (ax_c0 c x → J en.2.2.1 ls st M kc ks) ∧ (¬ ax_c0 c x → K ls st M kc ks)
    | _ => False
  | .if_icmp c _ => match st with
    | .inl y :: .inl x :: st => (ax_c2 c x y → J en.2.2.1 ls st M kc ks) ∧ (¬ ax_c2 c x y → K ls st M kc ks)
    | _ => False
  | .tableswitch _ lo hi offs => match st with
    | .inl x :: st => (x.toInt < lo ∨ hi < x.toInt → J en.2.2.1 ls st M kc ks) ∧ ax_swp (fun t => J t ls st M kc ks) x pc lo offs.toList
    | _ => False
  | .lookupswitch dflt ps => match st with
    | .inl x :: st => ∀ t : Nat, (pc : Int) + Op.lookupswitch.offset ps.toList dflt x.toInt = (t : Int) → J t ls st M kc ks
    | _ => False
  | .ireturn => match st with
    | [.inl x] => (rk = 1 → x = 0 ∨ x = 1) ∧ (kc ≤ RC ∧ ks ≤ RS) ∧ Ret (some (.inl x)) M
    | _ => False
  | .lreturn => match st with
    | [.inr (.inl x)] => (kc ≤ RC ∧ ks ≤ RS) ∧ Ret (some (.inr (.inl x))) M
    | _ => False
  | .return_ => match st with
    | [] => (kc ≤ RC ∧ ks ≤ RS) ∧ Ret none M
    | _ => False
  | .getfield _ => match st with
    | .inr (.inr k) :: st => ax_ob M.1 k (en.2.2.1 + 4) = true ∧ K ls ((if en.2.2.2.2.2.1 = 2 then .inr (.inr (M.2.2.2 k en.2.2.2.1)) else .inl (M.2.1 k en.2.2.2.1)) :: st) M kc ks
    | _ => False
  | .putfield _ => match st with
    | .inl x :: .inr (.inr k) :: st => ax_ob M.1 k (en.2.2.1 + 4) = true ∧ (en.2.2.2.2.2.1 = 0 ∨ (en.2.2.2.2.2.1 = 1 ∧ (x = 0 ∨ x = 1))) ∧ K ls st (M.1, ax_up M.2.1 k en.2.2.2.1 x, M.2.2.1, M.2.2.2) kc ks
    | .inr (.inr q) :: .inr (.inr k) :: st => ax_ob M.1 k (en.2.2.1 + 4) = true ∧ en.2.2.2.2.2.1 = 2 ∧ K ls st (M.1, M.2.1, M.2.2.1, ax_up M.2.2.2 k en.2.2.2.1 q) kc ks
    | _ => False
  | .iaload => match st with
    | .inl i :: .inr (.inr k) :: st => ((8 ≤ k ∧ ax_ob M.1 k 0 = true ∧ vp_in i (ax_SH k).2) ∨ (k < 8 ∧ vp_in i (M.2.2.2 k 0))) ∧ K ls (.inl (M.2.1 k i.toNatClampNeg) :: st) M kc ks
    | _ => False
  | .baload => match st with
    | .inl i :: .inr (.inr k) :: st => (ax_ob M.1 k 1 = true ∧ vp_in i (ax_SH k).2) ∧ K ls (.inl (M.2.1 k i.toNatClampNeg) :: st) M kc ks
    | _ => False
  | .laload => match st with
    | .inl i :: .inr (.inr k) :: st => (ax_ob M.1 k 2 = true ∧ vp_in i (ax_SH k).2) ∧ K ls (.inr (.inl (M.2.2.1 k i.toNatClampNeg)) :: st) M kc ks
    | _ => False
  | .iastore => match st with
    | .inl x :: .inl i :: .inr (.inr k) :: st => (ax_ob M.1 k 0 = true ∧ vp_in i (ax_SH k).2) ∧ K ls st (M.1, ax_up M.2.1 k i.toNatClampNeg x, M.2.2.1, M.2.2.2) kc ks
    | _ => False
  | .bastore => match st with
    | .inl x :: .inl i :: .inr (.inr k) :: st => (ax_ob M.1 k 1 = true ∧ vp_in i (ax_SH k).2) ∧ (x = 0 ∨ x = 1) ∧ K ls st (M.1, ax_up M.2.1 k i.toNatClampNeg x, M.2.2.1, M.2.2.2) kc ks
    | _ => False
  | .lastore => match st with
    | .inr (.inl x) :: .inl i :: .inr (.inr k) :: st => (ax_ob M.1 k 2 = true ∧ vp_in i (ax_SH k).2) ∧ K ls st (M.1, M.2.1, ax_up M.2.2.1 k i.toNatClampNeg x, M.2.2.2) kc ks
    | _ => False
  | .arraylength => match st with
    | .inr (.inr k) :: st => (en.2.2.1 = 0 ∨ en.2.2.1 = 1) ∧ ax_ob M.1 k en.2.2.1 = true ∧ K ls (.inl (Int32.ofNat (ax_SH k).2) :: st) M kc ks
    | _ => False
  | .new _ => match M.1 with
    | some n => (ax_SH n).1 = en.2.2.1 + 4 ∧ (kc + 1 ≤ RC ∧ ks + en.2.2.2.1 ≤ RS) ∧ K ls (.inr (.inr n) :: st) (ax_nw M n) (kc + 1) (ks + en.2.2.2.1)
    | none => False
  | .newarray _ => match M.1, st with
    | some n, .inl x :: st => ax_SH n = (en.2.2.1, x.toNatClampNeg) ∧ (¬ x < 0 ∧ x.toNatClampNeg ≤ 1000) ∧ (kc + 1 ≤ RC ∧ ks + x.toNatClampNeg ≤ RS) ∧ K ls (.inr (.inr n) :: st) (ax_nw M n) (kc + 1) (ks + x.toNatClampNeg)
    | _, _ => False
  | .invokevirtual _ => match ax_pop en.2.2.2.1 [] st with
    | some (as, .inr (.inr k) :: st) => ax_ob M.1 k (en.2.2.2.2.2.1 + 4) = true ∧ ax_sz st ≤ 8 ∧ (kc ≤ RC ∧ ks ≤ RS) ∧ Call en.2.2.1 (.inr (.inr k) :: as) M (fun v M' => K ls (v.toList ++ st) M' kc ks)
    | _ => False
  | .invokestatic _ => if en.2.2.2.2.2.1 = 9 then (match st with
      | .inl n :: .inl dp :: .inr (.inr k) :: .inl sp :: .inr (.inr k0) :: st => ax_ob M.1 k0 0 = true ∧ ax_ob M.1 k 0 = true ∧ (¬ sp < 0 ∧ ¬ dp < 0 ∧ ¬ n < 0) ∧ sp.toNatClampNeg + n.toNatClampNeg ≤ (ax_SH k0).2 ∧ dp.toNatClampNeg + n.toNatClampNeg ≤ (ax_SH k).2 ∧ ax_sz st ≤ 8 ∧ K ls st (M.1, ax_ur M.2.1 k (va_cpy (M.2.1 k0) (M.2.1 k) sp.toNatClampNeg dp.toNatClampNeg n.toNatClampNeg), M.2.2.1, M.2.2.2) kc ks
      | _ => False) else match ax_pop en.2.2.2.1 [] st with
    | some (as, st) => ax_sz st ≤ 8 ∧ (kc ≤ RC ∧ ks ≤ RS) ∧ Call en.2.2.1 as M (fun v M' => K ls (v.toList ++ st) M' kc ks)
    | _ => False
  | .invokespecial _ => if en.2.2.2.2.2.1 = 3 then (match st with
      | .inr (.inr k) :: st => k ≠ 0 ∧ ax_sz st ≤ 8 ∧ K ls st M kc ks
      | _ => False) else match ax_pop en.2.2.2.1 [] st with
    | some (as, .inr (.inr k) :: st) => k ≠ 0 ∧ ax_sz st ≤ 8 ∧ (kc + (ax_mu en.2.2.1).2.2.2.2.2.1 ≤ RC ∧ ks + (ax_mu en.2.2.1).2.2.2.2.2.2 ≤ RS) ∧ Call en.2.2.1 (.inr (.inr k) :: as) M (fun v M' => K ls (v.toList ++ st) M' (kc + (ax_mu en.2.2.1).2.2.2.2.2.1) (ks + (ax_mu en.2.2.1).2.2.2.2.2.2))
    | _ => False
  | _ => False
