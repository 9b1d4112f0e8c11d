/-! an abstract machine: values, locals, a memory of rows of numbers; what a heap must be to hold it -/
abbrev ax_V : Type := Int32 ⊕ Int64 ⊕ Nat
abbrev ax_L : Type := List (Option ax_V)
abbrev ax_M : Type := Option Nat × (Nat → Nat → Int32) × (Nat → Nat → Int64) × (Nat → Nat → Nat)
abbrev ax_E : Type := (Nat → ClassId) × (Nat → Nat → Nat) × (Nat → ClassId) × Nat × (Nat → Nat) × (State → Heap → Prop)
/-- a cell's place in the order of making: cells 37 .. 53 are made behind cells 54 .. 80 -/
def ax_pm (k : Nat) : Nat := if k < 37 then k else if k < 54 then k + 27 else if k < 81 then k - 17 else k
/-- the cell that is made next behind a cell -/
def ax_sc (k : Nat) : Nat := if k = 36 then 54 else if k = 80 then 37 else if k = 53 then 81 else k + 1
theorem ax_pm_8 {k : Nat} (h : 8 ≤ k) : 8 ≤ ax_pm k := by
  unfold ax_pm
  repeat' split
  all_goals omega
theorem ax_sc_8 {k : Nat} (h : 8 ≤ k) : 8 ≤ ax_sc k := by
  unfold ax_sc
  repeat' split
  all_goals omega
theorem ax_pm_sc (k : Nat) : ax_pm (ax_sc k) = ax_pm k + 1 := by
  unfold ax_pm ax_sc
  repeat' split
  all_goals omega
theorem ax_pm_inj {k k' : Nat} (h : ax_pm k = ax_pm k') : k = k' := by
  unfold ax_pm at h
  repeat' split at h
  all_goals omega
def ax_ad (E : ax_E) (k : Nat) : Nat := if k < 8 then E.2.2.2.2.1 k else E.2.2.2.1 + (ax_pm k - 8)
def ax_rv (E : ax_E) (k : Nat) : Value := if k = 0 then .null else .ref (ax_ad E k)
def ax_cv (E : ax_E) : ax_V → Value
  | .inl x => .int x
  | .inr (.inl x) => .long x
  | .inr (.inr k) => ax_rv E k
def ax_cat : ax_V → Nat
  | .inl _ => 1
  | .inr (.inl _) => 2
  | .inr (.inr _) => 1
theorem ax_cat_cv (E : ax_E) (v : ax_V) : (ax_cv E v).category = ax_cat v := by
  rcases v with x | x | k
  · rfl
  · rfl
  · show (ax_rv E k).category = 1
    unfold ax_rv
    split <;> rfl
/-- the cells as they are made: (0, n) ints, (1, n) booleans, (2, n) longs, (c + 4, _) an object of class c, (3, _) nothing is said -/
def ax_town : List (Nat × Nat) := [(13, 0), (0, 7), (0, 7), (0, 9), (0, 9), (0, 9), (0, 12), (0, 12), (0, 12), (0, 3), (0, 3)]
def ax_laws : List (Nat × Nat) := [(4, 0), (0, 64), (0, 3), (0, 3), (1, 3), (2, 7), (2, 64)]
def ax_plan : List (Nat × Nat) := (9, 0) :: (ax_town ++ (ax_laws ++ [(5, 0), (0, 9), (5, 0), (0, 9), (5, 0), (0, 9), (1, 7), (1, 3)]))
def ax_shl : List (Nat × Nat) :=
  [(3, 0), (3, 0), (3, 0), (3, 0), (3, 0), (3, 0), (3, 0), (3, 0), (14, 0), (0, 700)] ++ (ax_plan ++ (ax_town ++ ([(6, 0), (0, 9), (0, 56), (11, 0), (12, 0), (0, 21)] ++ (ax_plan ++ (ax_town ++
  ([(8, 0), (0, 20), (0, 20), (0, 20), (7, 0), (0, 24), (0, 24), (0, 24), (1, 24), (0, 24), (1, 24), (10, 0)] ++ (ax_town ++ ([(0, 8), (0, 9), (0, 100), (0, 100), (0, 7), (0, 7)] ++
  [(15, 0), (0, 700), (0, 16), (0, 14), (0, 14), (0, 18), (0, 18), (0, 18), (0, 18), (0, 16), (0, 16), (0, 16), (0, 6), (0, 6), (0, 6), (0, 6), (0, 6), (0, 128), (0, 128), (2, 7), (2, 64),
   (0, 23), (0, 23), (0, 23), (0, 23), (0, 207), (0, 161), (0, 161), (0, 276), (0, 276), (0, 276), (0, 69), (0, 56), (0, 56), (0, 100), (0, 100), (0, 7), (0, 7), (0, 24), (0, 24), (0, 24), (1, 24), (0, 24), (1, 24), (2, 1)]))))))))
def ax_SH (k : Nat) : Nat × Nat := ax_shl.getD k (3, 0)
theorem ax_SH_len : ax_shl.length = 166 := by decide +kernel
abbrev ax_cl : List vw_C := [(RX0, TX0, 7), (RX1, TX1, 2), (RX2, TX2, 4), (RX3, TX3, 9), (RX4, TX4, 4), (RX5, TX5, 7), (RX6, TX6, 9), (RX7, TX7, 9), (RX8, TX8, 8), (RX9, TX9, 18), (RX10, TX10, 12), (RX11, TX11, 70)]
def ax_tyl : List (Nat → FieldType) := [tyX0, tyX1, tyX2, tyX3, tyX4, tyX5, tyX6, tyX7, tyX8, tyX9, tyX10, tyX11]
def ax_ty (c j : Nat) : FieldType := (ax_tyl.getD c (fun _ => .int)) j
/-- a field's kind: 0 a number, 1 a boolean, 2 a reference -/
def ax_kd (c j : Nat) : Nat := match ax_ty c j with
  | .int => 0
  | .boolean => 1
  | .object _ => 2
  | .array _ => 2
  | _ => 3
def ax_fv (E : ax_E) (M : ax_M) (c k j : Nat) : Value := if ax_kd c j = 2 then ax_rv E (M.2.2.2 k j) else .int (M.2.1 k j)
def ax_C1 (E : ax_E) (M : ax_M) (k : Nat) (H : Heap) : Prop :=
  ((ax_SH k).1 = 0 → H[ax_ad E k]? = some (arrV (E.2.2.1 0) (ax_SH k).2 (fun j => .int (M.2.1 k j)))) ∧
  ((ax_SH k).1 = 1 → H[ax_ad E k]? = some (arrV (E.2.2.1 1) (ax_SH k).2 (fun j => .int (M.2.1 k j)))) ∧
  ((ax_SH k).1 = 2 → H[ax_ad E k]? = some (arrV (E.2.2.1 2) (ax_SH k).2 (fun j => .long (M.2.2.1 k j)))) ∧
  (∀ c, (ax_SH k).1 = c + 4 → ∃ r : vw_C, ax_cl[c]? = some r ∧ t_OB (ax_ad E k) (E.1 c) r.2.2 (E.2.1 c) H (ax_fv E M c k))
/-- the cells outside, that nobody writes: arrays of ints; of a cell k their length is M's (k, 0) -/
def ax_X0 (b L : Nat) (xs : Nat → Int32) (U : State) (H : Heap) : Prop := ∃ scr : Cell, H[b]? = some scr ∧ U.isArrayOf scr .int ∧ scr.vm ≠ .unknown ∧ L ≤ scr.slots.size ∧ ∀ j : Nat, j < L → scr.slots[j]? = some (.int (xs j))
theorem ax_X0.kept {b L : Nat} {xs : Nat → Int32} {U : State} {H H1 : Heap} (h : ax_X0 b L xs U H) (hq : H1[b]? = H[b]?) : ax_X0 b L xs U H1 := by
  obtain ⟨scr, h1, h2⟩ := h
  exact ⟨scr, hq.trans h1, h2⟩
theorem ax_X0.moved {b L : Nat} {xs : Nat → Int32} {u U : State} {H : Heap} (hvm : u.vm.Alike U.vm) (h : ax_X0 b L xs u H) : ax_X0 b L xs U H := by
  obtain ⟨scr, h1, h2, h3⟩ := h
  exact ⟨scr, h1, State.isArrayOf_alike hvm h2, h3⟩
def ax_C0 (E : ax_E) (M : ax_M) (U : State) (H : Heap) : Prop := ∀ k, k < 8 → 0 < M.2.2.2 k 0 → k ≠ 0 ∧ ax_X0 (ax_ad E k) (M.2.2.2 k 0) (M.2.1 k) U H ∧ ax_ad E k < E.2.2.2.1
def ax_H (E : ax_E) (M : ax_M) (U : State) (H : Heap) : Prop :=
  (∀ n, M.1 = some n → 8 ≤ n ∧ H.size = E.2.2.2.1 + (ax_pm n - 8)) ∧ (∀ k, 8 ≤ k → (∀ n, M.1 = some n → ax_pm k < ax_pm n) → ax_C1 E M k H) ∧ ax_C0 E M U H
def ax_K (E : ax_E) (U : State) : Prop := va_K (E.1, E.2.1) ax_cl [(E.2.2.1 0, .int), (E.2.2.1 1, .boolean), (E.2.2.1 2, .long)] U
def ax_A (E : ax_E) : Nat → Prop := fun q => E.2.2.2.1 ≤ q
def ax_nwl : List Cond := [.methodLinkNest "NoseCensus" 13 ⟨"NoseCensus$Plan", "<init>", "()V"⟩ "NoseCensus", .methodLinkNest "NoseCensus$Plan" 11 ⟨"NoseCensus$Town", "<init>", "()V"⟩ "NoseCensus", .methodLinkNest "NoseCensus$Plan" 20 ⟨"NoseCensus$Laws", "<init>", "()V"⟩ "NoseCensus", .methodLinkNest "NoseCensus$Plan" 27 ⟨"NoseCensus$Names", "<init>", "()V"⟩ "NoseCensus", .methodLinkNest "NoseCensus" 16 ⟨"NoseCensus$Town", "<init>", "()V"⟩ "NoseCensus", .methodLinkNest "NoseCensus" 55 ⟨"NoseCensus$Past", "<init>", "()V"⟩ "NoseCensus", .methodLinkNest "NoseCensus" 62 ⟨"NoseCensus$Notebook", "<init>", "()V"⟩ "NoseCensus", .methodLinkNest "NoseCensus$Questions" 11 ⟨"NoseCensus$Town", "<init>", "()V"⟩ "NoseCensus"]
/-- what holds outside (X) stays when the tables warm and when only our own cells change; it has the nest mates' links -/
def ax_Xok (E : ax_E) : Prop := (∀ (u U : State) (H : Heap), u.WarmedH U.vm → E.2.2.2.2.2 u H → E.2.2.2.2.2 U H) ∧ (∀ (U : State) (H H1 : Heap), (∀ q : Nat, q < E.2.2.2.1 → H1[q]? = H[q]?) → E.2.2.2.2.2 U H → E.2.2.2.2.2 U H1) ∧ (∀ (U : State) (H : Heap), E.2.2.2.2.2 U H → ∀ w ∈ ax_nwl, va_Nw w U)
def ax_S (E : ax_E) (M : ax_M) (U : State) : Prop := ax_H E M U U.heap ∧ ax_K E U ∧ E.2.2.2.2.2 U U.heap ∧ E.2.2.2.1 ≤ U.heap.size
def ax_ob (n : Option Nat) (k t : Nat) : Bool := decide ((ax_SH k).1 = t) && decide (8 ≤ k) && (match n with
  | none => true
  | some n => decide (ax_pm k < ax_pm n))
def ax_up {α : Type} (f : Nat → Nat → α) (k j : Nat) (v : α) : Nat → Nat → α := fun k' j' => if k' = k then (if j' = j then v else f k' j') else f k' j'
def ax_ur {α : Type} (f : Nat → Nat → α) (k : Nat) (g : Nat → α) : Nat → Nat → α := fun k' => if k' = k then g else f k'
theorem ax_up_s {α : Type} (f : Nat → Nat → α) (k j : Nat) (v : α) : ax_up f k j v k j = v := by simp [ax_up]
theorem ax_up_k {α : Type} (f : Nat → Nat → α) {k k' : Nat} (j j' : Nat) (v : α) (h : k' ≠ k) : ax_up f k j v k' j' = f k' j' := by simp [ax_up, h]
theorem ax_up_j {α : Type} (f : Nat → Nat → α) (k k' : Nat) {j j' : Nat} (v : α) (h : j' ≠ j) : ax_up f k j v k' j' = f k' j' := by simp [ax_up, h]
theorem ax_up_r {α : Type} (f : Nat → Nat → α) {k k' : Nat} (j : Nat) (v : α) (h : k' ≠ k) : ax_up f k j v k' = f k' := by funext j'; simp [ax_up, h]
theorem ax_ur_s {α : Type} (f : Nat → Nat → α) (k : Nat) (g : Nat → α) : ax_ur f k g k = g := by simp [ax_ur]
theorem ax_ur_k {α : Type} (f : Nat → Nat → α) {k k' : Nat} (g : Nat → α) (h : k' ≠ k) : ax_ur f k g k' = f k' := by simp [ax_ur, h]
theorem ax_ob_t {n : Option Nat} {k t : Nat} (h : ax_ob n k t = true) : (ax_SH k).1 = t ∧ 8 ≤ k ∧ ∀ m, n = some m → ax_pm k < ax_pm m := by
  unfold ax_ob at h
  simp only [Bool.and_eq_true, decide_eq_true_eq] at h
  refine ⟨h.1.1, h.1.2, fun m hm => ?_⟩
  subst hm
  simpa using h.2
theorem ax_ad_8 {E : ax_E} {k : Nat} (h : 8 ≤ k) : ax_ad E k = E.2.2.2.1 + (ax_pm k - 8) := by unfold ax_ad; rw [if_neg (by omega)]
theorem ax_rv_8 {E : ax_E} {k : Nat} (h : 8 ≤ k) : ax_rv E k = .ref (ax_ad E k) := by unfold ax_rv; rw [if_neg (by omega)]
theorem ax_ad_ne {E : ax_E} {k k' : Nat} (h : 8 ≤ k) (h' : 8 ≤ k') (hn : k' ≠ k) : ax_ad E k' ≠ ax_ad E k := by
  rw [ax_ad_8 h, ax_ad_8 h']
  have h1 := ax_pm_8 h
  have h2 := ax_pm_8 h'
  intro e
  exact hn (ax_pm_inj (by omega))
theorem ax_ad_A {E : ax_E} {k : Nat} (h : 8 ≤ k) : ax_A E (ax_ad E k) := by rw [ax_ad_8 h]; exact Nat.le_add_right _ _
theorem ax_C1.kept {E : ax_E} {M M' : ax_M} {k : Nat} {H H1 : Heap} (h : ax_C1 E M k H) (h1 : M'.2.1 k = M.2.1 k) (h2 : M'.2.2.1 k = M.2.2.1 k) (h3 : M'.2.2.2 k = M.2.2.2 k) (hq : H1[ax_ad E k]? = H[ax_ad E k]?) : ax_C1 E M' k H1 := by
  obtain ⟨a0, a1, a2, a3⟩ := h
  refine ⟨fun q => ?_, fun q => ?_, fun q => ?_, fun c q => ?_⟩
  · rw [hq, a0 q, h1]
  · rw [hq, a1 q, h1]
  · rw [hq, a2 q, h2]
  · obtain ⟨r, hr, ho⟩ := a3 c q
    refine ⟨r, hr, (ho.kept hq).to (fun j _ => ?_)⟩
    unfold ax_fv
    rw [h1, h3]
theorem ax_C0.kept {E : ax_E} {M M' : ax_M} {U : State} {H H1 : Heap} (h : ax_C0 E M U H) (h1 : ∀ k, k < 8 → M'.2.1 k = M.2.1 k) (h3 : ∀ k, k < 8 → M'.2.2.2 k = M.2.2.2 k) (hq : ∀ q : Nat, q < E.2.2.2.1 → H1[q]? = H[q]?) : ax_C0 E M' U H1 := by
  intro k hk hl
  rw [h3 k hk] at hl ⊢
  rw [h1 k hk]
  obtain ⟨a, b, c⟩ := h k hk hl
  exact ⟨a, b.kept (hq _ c), c⟩
theorem ax_H.set {E : ax_E} {M M' : ax_M} {U : State} {k : Nat} {H H1 : Heap} (h : ax_H E M U H) (hk : 8 ≤ k) (hn : M'.1 = M.1) (h1 : ∀ k', k' ≠ k → M'.2.1 k' = M.2.1 k' ∧ M'.2.2.1 k' = M.2.2.1 k' ∧ M'.2.2.2 k' = M.2.2.2 k') (z : H1.size = H.size) (oq : ∀ q : Nat, q ≠ ax_ad E k → H1[q]? = H[q]?) (hc : ax_C1 E M' k H1) : ax_H E M' U H1 := by
  obtain ⟨a, b, c⟩ := h
  refine ⟨fun n q => ?_, fun k' h8 hlt => ?_, c.kept (fun k' q => (h1 k' (by omega)).1) (fun k' q => (h1 k' (by omega)).2.2) (fun q hq => oq q (fun e => ?_))⟩
  · rw [z]; exact a n (hn ▸ q)
  · by_cases hkk : k' = k
    · subst hkk; exact hc
    · obtain ⟨e1, e2, e3⟩ := h1 k' hkk
      exact (b k' h8 (fun n q => hlt n (hn.symm ▸ q))).kept e1 e2 e3 (oq _ (ax_ad_ne hk h8 hkk))
  · have := ax_ad_A (E := E) hk
    unfold ax_A at this
    omega
theorem ax_X_put {E : ax_E} (hok : ax_Xok E) {U : State} {k : Nat} {H H1 : Heap} (hk : 8 ≤ k) (oq : ∀ q : Nat, q ≠ ax_ad E k → H1[q]? = H[q]?) (h : E.2.2.2.2.2 U H) : E.2.2.2.2.2 U H1 := by
  refine hok.2.1 U H H1 (fun q hq => oq q (fun e => ?_)) h
  have := ax_ad_A (E := E) hk
  unfold ax_A at this
  omega
/-- the locals as pairs -/
def ax_prs (E : ax_E) : Nat → ax_L → List (Nat × Value)
  | _, [] => []
  | i, none :: t => ax_prs E (i + 1) t
  | i, some v :: t => (i, ax_cv E v) :: ax_prs E (i + 1) t
theorem ax_prs_mem {E : ax_E} : ∀ (ls : ax_L) (i : Nat) (q : Nat × Value), q ∈ ax_prs E i ls ↔ ∃ j v, ls[j]? = some (some v) ∧ q = (i + j, ax_cv E v)
  | [], i, q => by simp [ax_prs]
  | none :: t, i, q => by
    unfold ax_prs
    rw [ax_prs_mem t (i + 1) q]
    constructor
    · rintro ⟨j, v, h, rfl⟩
      exact ⟨j + 1, v, by simpa using h, by rw [show i + 1 + j = i + (j + 1) by omega]⟩
    · rintro ⟨j, v, h, rfl⟩
      cases j with
      | zero => simp at h
      | succ j => exact ⟨j, v, by simpa using h, by rw [show i + 1 + j = i + (j + 1) by omega]⟩
  | some w :: t, i, q => by
    unfold ax_prs
    rw [List.mem_cons, ax_prs_mem t (i + 1) q]
    constructor
    · rintro (rfl | ⟨j, v, h, rfl⟩)
      · exact ⟨0, w, by simp, by simp⟩
      · exact ⟨j + 1, v, by simpa using h, by rw [show i + 1 + j = i + (j + 1) by omega]⟩
    · rintro ⟨j, v, h, rfl⟩
      cases j with
      | zero => simp at h; subst h; exact Or.inl rfl
      | succ j => exact Or.inr ⟨j, v, by simpa using h, by rw [show i + 1 + j = i + (j + 1) by omega]⟩
theorem ax_lv_at {E : ax_E} {la : Array Slot} {nL : Nat} {ls : ax_L} (h : lv_has la nL (ax_prs E 0 ls)) {i : Nat} {v : ax_V} (hi : ls[i]? = some (some v)) : la[i]? = some (.val (ax_cv E v)) :=
  h.2.2 (i, ax_cv E v) ((ax_prs_mem ls 0 _).mpr ⟨i, v, hi, by simp⟩)
theorem ax_lv_sub {E : ax_E} {la : Array Slot} {nL : Nat} {ls ls' : ax_L} (h : lv_has la nL (ax_prs E 0 ls)) (hs : ∀ (i : Nat) (v : ax_V), ls'[i]? = some (some v) → ls[i]? = some (some v)) : lv_has la nL (ax_prs E 0 ls') := by
  refine ⟨h.1, h.2.1, fun q hq => ?_⟩
  obtain ⟨j, v, hj, rfl⟩ := (ax_prs_mem ls' 0 q).mp hq
  exact h.2.2 _ ((ax_prs_mem ls 0 _).mpr ⟨j, v, hs j v hj, rfl⟩)
def ax_il : Option ax_V → Bool
  | some (.inr (.inl _)) => true
  | _ => false
def ax_st1 : ax_L → Nat → ax_V → ax_L
  | [], _, _ => []
  | _ :: t, 0, v => some v :: t
  | a :: t, 1, v => (if ax_il a = true then none else a) :: ax_st1 t 0 v
  | a :: t, i + 2, v => a :: ax_st1 t (i + 1) v
def ax_st2 : ax_L → Nat → ax_V → ax_L
  | [], _, _ => []
  | _ :: [], 0, v => some v :: []
  | _ :: _ :: t, 0, v => some v :: none :: t
  | a :: t, 1, v => (if ax_il a = true then none else a) :: ax_st2 t 0 v
  | a :: t, i + 2, v => a :: ax_st2 t (i + 1) v
theorem ax_st1_get : ∀ (ls : ax_L) (i : Nat) (v : ax_V) (j : Nat) (w : ax_V), (ax_st1 ls i v)[j]? = some (some w) → (j = i ∧ w = v) ∨ (j ≠ i ∧ ls[j]? = some (some w) ∧ ¬ (j + 1 = i ∧ ax_cat w = 2))
  | [], i, v, j, w, h => by simp [ax_st1] at h
  | a :: t, 0, v, j, w, h => by
    cases j with
    | zero => simp [ax_st1] at h; exact Or.inl ⟨rfl, h.symm⟩
    | succ j => simp [ax_st1] at h; exact Or.inr ⟨by omega, by simpa using h, by omega⟩
  | a :: t, 1, v, j, w, h => by
    cases j with
    | zero =>
      simp only [ax_st1, List.getElem?_cons_zero, Option.some.injEq] at h
      split at h
      · cases h
      · rename_i hl
        refine Or.inr ⟨by omega, by simp [h], fun hc => hl ?_⟩
        rw [h]
        rcases w with x | x | x
        · simp [ax_cat] at hc
        · rfl
        · simp [ax_cat] at hc
    | succ j =>
      simp only [ax_st1, List.getElem?_cons_succ] at h
      rcases ax_st1_get t 0 v j w h with ⟨e, hw⟩ | ⟨e, hg, hn⟩
      · exact Or.inl ⟨by omega, hw⟩
      · exact Or.inr ⟨by omega, by simpa using hg, by omega⟩
  | a :: t, i + 2, v, j, w, h => by
    cases j with
    | zero => simp [ax_st1] at h; exact Or.inr ⟨by omega, by simp [h], by omega⟩
    | succ j =>
      simp only [ax_st1, List.getElem?_cons_succ] at h
      rcases ax_st1_get t (i + 1) v j w h with ⟨e, hw⟩ | ⟨e, hg, hn⟩
      · exact Or.inl ⟨by omega, hw⟩
      · exact Or.inr ⟨by omega, by simpa using hg, fun hc => hn ⟨by omega, hc.2⟩⟩
theorem ax_st2_get : ∀ (ls : ax_L) (i : Nat) (v : ax_V) (j : Nat) (w : ax_V), (ax_st2 ls i v)[j]? = some (some w) → (j = i ∧ w = v) ∨ (j ≠ i ∧ j ≠ i + 1 ∧ ls[j]? = some (some w) ∧ ¬ (j + 1 = i ∧ ax_cat w = 2))
  | [], i, v, j, w, h => by simp [ax_st2] at h
  | [a], 0, v, j, w, h => by
    cases j with
    | zero => simp [ax_st2] at h; exact Or.inl ⟨rfl, h.symm⟩
    | succ j => simp [ax_st2] at h
  | a :: b :: t, 0, v, j, w, h => by
    match j, h with
    | 0, h => simp [ax_st2] at h; exact Or.inl ⟨rfl, h.symm⟩
    | 1, h => simp [ax_st2] at h
    | j + 2, h => simp [ax_st2] at h; exact Or.inr ⟨by omega, by omega, by simpa using h, by omega⟩
  | a :: t, 1, v, j, w, h => by
    cases j with
    | zero =>
      simp only [ax_st2, List.getElem?_cons_zero, Option.some.injEq] at h
      split at h
      · cases h
      · rename_i hl
        refine Or.inr ⟨by omega, by omega, by simp [h], fun hc => hl ?_⟩
        rw [h]
        rcases w with x | x | x
        · simp [ax_cat] at hc
        · rfl
        · simp [ax_cat] at hc
    | succ j =>
      simp only [ax_st2, List.getElem?_cons_succ] at h
      rcases ax_st2_get t 0 v j w h with ⟨e, hw⟩ | ⟨e, e2, hg, hn⟩
      · exact Or.inl ⟨by omega, hw⟩
      · exact Or.inr ⟨by omega, by omega, by simpa using hg, by omega⟩
  | a :: t, i + 2, v, j, w, h => by
    cases j with
    | zero => simp [ax_st2] at h; exact Or.inr ⟨by omega, by omega, by simp [h], by omega⟩
    | succ j =>
      simp only [ax_st2, List.getElem?_cons_succ] at h
      rcases ax_st2_get t (i + 1) v j w h with ⟨e, hw⟩ | ⟨e, e2, hg, hn⟩
      · exact Or.inl ⟨by omega, hw⟩
      · exact Or.inr ⟨by omega, by omega, by simpa using hg, fun hc => hn ⟨by omega, hc.2⟩⟩
theorem ax_lv_st1 {E : ax_E} {la : Array Slot} {nL i : Nat} {ls : ax_L} {v : ax_V} (h : lv_has la nL ((i, ax_cv E v) :: (ax_prs E 0 ls).filter (fun q => !(q.1 == i) && !(q.1 + 1 == i && q.2.category == 2)))) : lv_has la nL (ax_prs E 0 (ax_st1 ls i v)) := by
  refine ⟨h.1, h.2.1, fun q hq => h.2.2 q ?_⟩
  obtain ⟨j, w, hj, rfl⟩ := (ax_prs_mem _ 0 q).mp hq
  rw [Nat.zero_add]
  rcases ax_st1_get ls i v j w hj with ⟨e, hw⟩ | ⟨e, hg, hn⟩
  · subst e; subst hw; exact List.mem_cons_self
  · refine List.mem_cons_of_mem _ (List.mem_filter.mpr ⟨(ax_prs_mem ls 0 _).mpr ⟨j, w, hg, by simp⟩, ?_⟩)
    have h2 : ¬ (j + 1 = i ∧ (ax_cv E w).category = 2) := by rw [ax_cat_cv]; exact hn
    simp only [Bool.and_eq_true, Bool.not_eq_true', beq_eq_false_iff_ne, ne_eq, Bool.and_eq_false_iff]
    refine ⟨e, ?_⟩
    by_cases hx : j + 1 = i
    · exact Or.inr (fun hy => h2 ⟨hx, hy⟩)
    · exact Or.inl hx
theorem ax_lv_st2 {E : ax_E} {la : Array Slot} {nL i : Nat} {ls : ax_L} {v : ax_V} (h : lv_has la nL ((i, ax_cv E v) :: (ax_prs E 0 ls).filter (fun q => !(q.1 == i) && (!(q.1 == i + 1) && !(q.1 + 1 == i && q.2.category == 2))))) : lv_has la nL (ax_prs E 0 (ax_st2 ls i v)) := by
  refine ⟨h.1, h.2.1, fun q hq => h.2.2 q ?_⟩
  obtain ⟨j, w, hj, rfl⟩ := (ax_prs_mem _ 0 q).mp hq
  rw [Nat.zero_add]
  rcases ax_st2_get ls i v j w hj with ⟨e, hw⟩ | ⟨e, e2, hg, hn⟩
  · subst e; subst hw; exact List.mem_cons_self
  · refine List.mem_cons_of_mem _ (List.mem_filter.mpr ⟨(ax_prs_mem ls 0 _).mpr ⟨j, w, hg, by simp⟩, ?_⟩)
    have h2 : ¬ (j + 1 = i ∧ (ax_cv E w).category = 2) := by rw [ax_cat_cv]; exact hn
    simp only [Bool.and_eq_true, Bool.not_eq_true', beq_eq_false_iff_ne, ne_eq, Bool.and_eq_false_iff]
    refine ⟨e, e2, ?_⟩
    by_cases hx : j + 1 = i
    · exact Or.inr (fun hy => h2 ⟨hx, hy⟩)
    · exact Or.inl hx
/-- the locals with which a method begins -/
def ax_ent : List ax_V → ax_L
  | [] => []
  | v :: t => if ax_cat v = 2 then some v :: none :: ax_ent t else some v :: ax_ent t
theorem ax_ent_sub {E : ax_E} : ∀ (as : List ax_V) (i : Nat) (q : Nat × Value), q ∈ ax_prs E i (ax_ent as) → q ∈ lv_args i (as.map (ax_cv E))
  | [], i, q, h => by simp [ax_ent, ax_prs] at h
  | v :: t, i, q, h => by
    unfold ax_ent at h
    show q ∈ (i, ax_cv E v) :: lv_args (if (ax_cv E v).category = 2 then i + 2 else i + 1) (t.map (ax_cv E))
    rw [ax_cat_cv]
    by_cases hc : ax_cat v = 2
    · rw [if_pos hc] at h ⊢
      simp only [ax_prs, List.mem_cons] at h
      rcases h with h | h
      · exact List.mem_cons.mpr (Or.inl h)
      · exact List.mem_cons_of_mem _ (ax_ent_sub t (i + 2) q h)
    · rw [if_neg hc] at h ⊢
      simp only [ax_prs, List.mem_cons] at h
      rcases h with h | h
      · exact List.mem_cons.mpr (Or.inl h)
      · exact List.mem_cons_of_mem _ (ax_ent_sub t (i + 1) q h)
