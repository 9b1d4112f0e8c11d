/-! the start -/
def wX (A : Nat → Prop) (b L : Nat) (xs : Nat → Int32) (a2 a3 a4 a5 a6 q1 q2 : Nat) (zf : Value) (u0 sen : RefV) : State → Heap → Prop := fun U H =>
  (va_X b L xs U H ∧ ¬ A b) ∧ va_Z "NoseCensus$Reader" "MOST_NUMBERS" "[I" (.ref a2) A U H ∧ va_Z "java/lang/String" "COMPACT_STRINGS" "Z" (.int 1) A U H ∧ va_Z "jdk/internal/util/Preconditions" "SIOOBE_FORMATTER" "Ljava/util/function/BiFunction;" zf A U H ∧ (sf_ A a3 a5 103 wm_ U H ∧ sf_ A a4 a6 103 wt_ U H) ∧ (vk_R "NoseCensusModel" 200 xM_ a3 U ∧ vk_R "NoseCensus$Tokens" 18 xT_ a4 U ∧ vk_R "NoseCensus" 141 "no such person" q1 U ∧ vk_R "NoseCensus" 166 "no such what" q2 U) ∧ th_F A u0 sen U H ∧ th_N U ∧ ∀ w ∈ ax_nwl, va_Nw w U
theorem nwl_m : ∀ w ∈ ax_nwl, ∃ (a : String) (i : Nat) (x : MethodName) (h : String), w = .methodLinkNest a i x h := by
  intro w hw
  simp only [ax_nwl, List.mem_cons, List.not_mem_nil, or_false] at hw
  rcases hw with rfl | rfl | rfl | rfl | rfl | rfl | rfl | rfl <;> exact ⟨_, _, _, _, rfl⟩
section WHO
variable {A : Nat → Prop} {b L : Nat} {xs : Nat → Int32} {a2 a3 a4 a5 a6 q1 q2 : Nat} {zf : Value} {u0 sen : RefV}
theorem wX_warm {u U : State} {H : Heap} (hW : u.WarmedH U.vm) (h : wX A b L xs a2 a3 a4 a5 a6 q1 q2 zf u0 sen u H) : wX A b L xs a2 a3 a4 a5 a6 q1 q2 zf u0 sen U H := by
  obtain ⟨⟨h1, h1'⟩, h2, h3, h4, ⟨h5, h6⟩, ⟨h7, h8, h9, h10⟩, h11, h12, h13⟩ := h
  have al := hW.alike
  refine ⟨⟨va_X.moved al h1, h1'⟩, va_Z.moved al h2, va_Z.moved al h3, va_Z.moved al h4, ⟨sf_.moved al h5, sf_.moved al h6⟩, ⟨vk_R.warm hW h7, vk_R.warm hW h8, vk_R.warm hW h9, vk_R.warm hW h10⟩, th_F.moved al h11, th_N.moved al h12, fun w hw => ?_⟩
  obtain ⟨a, i, x, hh, rfl⟩ := nwl_m w hw
  exact va_Nw.warmM hW (h13 _ hw)
theorem wX_kept {U : State} {H H1 : Heap} (h : wX A b L xs a2 a3 a4 a5 a6 q1 q2 zf u0 sen U H) (hq : ∀ q : Nat, ¬ A q → H1[q]? = H[q]?) : wX A b L xs a2 a3 a4 a5 a6 q1 q2 zf u0 sen U H1 := by
  obtain ⟨⟨h1, h1'⟩, h2, h3, h4, ⟨h5, h6⟩, h7, h11, h12, h13⟩ := h
  have hq' : ∀ a : Nat, a < H.size → ¬ A a → H1[a]? = H[a]? := fun a _ ha => hq a ha
  exact ⟨⟨h1.kept (hq b h1'), h1'⟩, h2.kept hq', h3.kept hq', h4.kept hq', ⟨h5.kept hq', h6.kept hq'⟩, h7, h11.kept hq, h12, h13⟩
end WHO
def i00 (xs : Nat → Int32) (k j : Nat) : Int32 := if k = 1 then xs j else if k = 2 then ([nI 100, nI 99, nI 99999] : List Int32).getD j 0 else 0
abbrev wAz (sz : Nat) : Nat → Prop := fun q => sz ≤ q
abbrev wE (sz : Nat) (dC : Nat → ClassId) (dI : Nat → Nat → Nat) (dA : Nat → ClassId) (b a2 a3 a4 a5 a6 a7 : Nat) (X : State → Heap → Prop) : ax_E := (dC, dI, dA, sz, fun k => if k = 1 then b else if k = 2 then a2 else if k = 3 then a3 else if k = 4 then a4 else if k = 5 then a5 else if k = 6 then a6 else a7, X)
set_option maxHeartbeats 4000000 in
theorem whole_two {p : Program} {e : Env} {s : State} {m : MethodId} {below : List Frame} {meth : Method} {c : Code} (l : Launch) (hlf : l.stackTraces = false) {b L : Nat} {xs : Nat → Int32} (hL : L ≤ 3072) (hx : p.tables.exec = Jvm.exec) (hb : c.code = code) (hr : meth.sig.returnType = ret) (hml : c.maxLocals = 7) (hown : s.vm.findClass R_law = some m.cls) (hts' : ∀ w ∈ ax_gw, w.before #[Value.ref b] s = true) (hsc : va_X b L xs s s.heap) (hbl : b < s.heap.size) (hlk : meth.locks = false)
    {dC : Nat → ClassId} {dI : Nat → Nat → Nat} {dA : Nat → ClassId} (hK : va_K (dC, dI) ax_cl [(dA 0, .int), (dA 1, .boolean), (dA 2, .long)] s) {a2 a3 a4 a5 a6 a7 q1 q2 : Nat} {zf : Value} {u0 sen : RefV} (hzf : zf = .null ∨ zf = .ref a7) (t2 : va_T .int a2 3 (fun j => .int (([nI 100, nI 99, nI 99999] : List Int32).getD j 0)) (wAz s.heap.size) s s.heap) (hX0 : wX (wAz s.heap.size) b L xs a2 a3 a4 a5 a6 q1 q2 zf u0 sen s s.heap) : W p l e room_1 s m #[Value.ref b] below meth c s.heap [] 0 0 (lw_Z below #[Value.ref b] s) (entryFrame m ([Value.ref b] : List Value).toArray 7) := by
  have hok : ax_Xok (wE s.heap.size dC dI dA b a2 a3 a4 a5 a6 a7 (wX (wAz s.heap.size) b L xs a2 a3 a4 a5 a6 q1 q2 zf u0 sen)) := ⟨fun u U H hW h => wX_warm hW h, fun U H H1 hq h => wX_kept h (fun q hq' => hq q (Nat.not_le.mp hq')), fun U H h => h.2.2.2.2.2.2.2.2⟩
  have hzk : ax_Zok (wE s.heap.size dC dI dA b a2 a3 a4 a5 a6 a7 (wX (wAz s.heap.size) b L xs a2 a3 a4 a5 a6 q1 q2 zf u0 sen)) := fun U H h => h.2.1
  have hfm : ∃ z : Nat, ∀ (U : State) (H : Heap), (wE s.heap.size dC dI dA b a2 a3 a4 a5 a6 a7 (wX (wAz s.heap.size) b L xs a2 a3 a4 a5 a6 q1 q2 zf u0 sen)).2.2.2.2.2 U H → va_Z "jdk/internal/util/Preconditions" "SIOOBE_FORMATTER" "Ljava/util/function/BiFunction;" (ax_rv (wE s.heap.size dC dI dA b a2 a3 a4 a5 a6 a7 (wX (wAz s.heap.size) b L xs a2 a3 a4 a5 a6 q1 q2 zf u0 sen)) z) (ax_A (wE s.heap.size dC dI dA b a2 a3 a4 a5 a6 a7 (wX (wAz s.heap.size) b L xs a2 a3 a4 a5 a6 q1 q2 zf u0 sen))) U H := by
    rcases hzf with hz | hz
    · exact ⟨0, fun U H h => by have h4 := h.2.2.2.1; rw [hz] at h4; exact h4⟩
    · exact ⟨7, fun U H h => by have h4 := h.2.2.2.1; rw [hz] at h4; exact h4⟩
  have hwm : wm_ok (wE s.heap.size dC dI dA b a2 a3 a4 a5 a6 a7 (wX (wAz s.heap.size) b L xs a2 a3 a4 a5 a6 q1 q2 zf u0 sen)) := ⟨⟨Or.inl rfl, by decide, wm_128, hfm, fun U H h => ⟨h.2.2.1, h.2.2.2.2.1.1.1, h.2.2.2.2.1.1.2.1, h.2.2.2.2.1.1.2.2.1, h.2.2.2.2.1.1.2.2.2⟩⟩, fun U H h => h.2.2.2.2.2.1.1⟩
  have hwt : wt_ok (wE s.heap.size dC dI dA b a2 a3 a4 a5 a6 a7 (wX (wAz s.heap.size) b L xs a2 a3 a4 a5 a6 q1 q2 zf u0 sen)) := ⟨⟨Or.inr rfl, by decide, wt_lt, hfm, fun U H h => ⟨h.2.2.1, h.2.2.2.2.1.2.1, h.2.2.2.2.1.2.2.1, h.2.2.2.2.1.2.2.2.1, h.2.2.2.2.1.2.2.2.2⟩⟩, fun U H h => h.2.2.2.2.2.1.2.1⟩
  have hth : th_ok (wE s.heap.size dC dI dA b a2 a3 a4 a5 a6 a7 (wX (wAz s.heap.size) b L xs a2 a3 a4 a5 a6 q1 q2 zf u0 sen)) := ⟨u0, sen, q1, q2, fun U H h => ⟨h.2.2.2.2.2.2.1, h.2.2.2.2.2.1.2.2.1, h.2.2.2.2.2.1.2.2.2, h.2.2.2.2.2.2.2.1⟩⟩
  have hs : ∀ (U : State) (H : Heap), (wE s.heap.size dC dI dA b a2 a3 a4 a5 a6 a7 (wX (wAz s.heap.size) b L xs a2 a3 a4 a5 a6 q1 q2 zf u0 sen)).2.2.2.2.2 U H → va_X (ax_ad (wE s.heap.size dC dI dA b a2 a3 a4 a5 a6 a7 (wX (wAz s.heap.size) b L xs a2 a3 a4 a5 a6 q1 q2 zf u0 sen)) 1) L xs U H := fun U H h => h.1.1
  have X : lX (wE s.heap.size dC dI dA b a2 a3 a4 a5 a6 a7 (wX (wAz s.heap.size) b L xs a2 a3 a4 a5 a6 q1 q2 zf u0 sen)) p s m b meth c := ⟨⟨hx, hb, hml, hown, hts', hK, hok, hlk, Nat.le_refl _, by show 2000 + 2 ≤ 2048; decide, by show 52 + 40 * 2000 ≤ 84000; decide⟩, hr, rfl⟩
  have hH : ax_H (wE s.heap.size dC dI dA b a2 a3 a4 a5 a6 a7 (wX (wAz s.heap.size) b L xs a2 a3 a4 a5 a6 q1 q2 zf u0 sen)) (some 8, i00 xs, wlo_, wrf_ L) s s.heap := by
    refine ⟨fun n q => ?_, fun k h8 hk => absurd (hk 8 rfl) (show ¬ ax_pm k < 8 from Nat.not_lt.mpr (ax_pm_8 h8)), fun k hk hl => ?_⟩
    · cases q; exact ⟨Nat.le_refl _, rfl⟩
    · rcases (show k = 0 ∨ k = 1 ∨ k = 2 ∨ k = 3 ∨ k = 4 ∨ k = 5 ∨ k = 6 ∨ k = 7 by omega) with rfl | rfl | rfl | rfl | rfl | rfl | rfl | rfl
      · exact absurd hl (Nat.lt_irrefl 0)
      · obtain ⟨scr, v1, v2, v3, v4, v5⟩ := hsc
        exact ⟨by decide, ⟨scr, v1, v2, v3, Nat.le_of_eq v4.symm, v5⟩, hbl⟩
      · obtain ⟨cell, v1, v2, v3, v4, -, v5, v6⟩ := t2
        exact ⟨by decide, ⟨cell, v1, v2, v3, v4, v5⟩, Nat.not_le.mp v6⟩
      · exact absurd hl (Nat.lt_irrefl 0)
      · exact absurd hl (Nat.lt_irrefl 0)
      · exact absurd hl (Nat.lt_irrefl 0)
      · exact absurd hl (Nat.lt_irrefl 0)
      · exact absurd hl (Nat.lt_irrefl 0)
  have key : W p l e room_1 s m #[Value.ref b] below meth c s.heap [] 0 0 (lw_Z below #[Value.ref b] s) (entryFrame m (([.inr (.inr 1)] : List ax_V).map (ax_cv (wE s.heap.size dC dI dA b a2 a3 a4 a5 a6 a7 (wX (wAz s.heap.size) b L xs a2 a3 a4 a5 a6 q1 q2 zf u0 sen)))).toArray 7) := by
    rw [lg_entry_eq]
    have hl := lv_entry (([.inr (.inr 1)] : List ax_V).map (ax_cv (wE s.heap.size dC dI dA b a2 a3 a4 a5 a6 a7 (wX (wAz s.heap.size) b L xs a2 a3 a4 a5 a6 q1 q2 zf u0 sen)))) (n := 7) (by rw [ax_sl_len]; exact (show 1 ≤ 7 by decide))
    exact lw_start (l := l) (e := e) (below := below) (i := i00 xs) (lo := wlo_) X hok hzk hwm hwt hth hlf hs hL rfl ⟨rfl, rfl, rfl⟩ s.heap [] _ hH hX0 va_S.rf (ax_lv_nones (n := 6) ⟨hl.1, hl.2.1, fun q hq => hl.2.2 q (ax_ent_sub ([.inr (.inr 1)] : List ax_V) 0 q hq)⟩)
  exact key
set_option maxHeartbeats 2000000 in
theorem whole_start {p : Program} {e : Env} {s : State} {m : MethodId} {below : List Frame} {meth : Method} {c : Code} (l : Launch) (hlf : l.stackTraces = false) {b L : Nat} {xs : Nat → Int32} (hL : L ≤ 3072) (C0 : lw_At p s m meth c b L xs) : W p l e room_1 s m #[Value.ref b] below meth c s.heap [] 0 0 (lw_Z below #[Value.ref b] s) (entryFrame m ([Value.ref b] : List Value).toArray 7) := by
  obtain ⟨hx, hb, hr, hml, hown, hts, hsc, hbl, hlk, hg⟩ := C0
  have hts' : ∀ w ∈ ax_gw, w.before #[Value.ref b] s = true := fun w hw => hts w (List.mem_filter.mp hw).1
  have hfl := flat_of_before gn_ hg
  have hA : ∀ a : Nat, a < s.heap.size → ¬ wAz s.heap.size a := fun a h q => Nat.not_le.mpr h q
  obtain ⟨dC, dI, dA, hK⟩ := st_K hts'
  obtain ⟨a3, a5, e3, s3⟩ := st_s (A := (wAz s.heap.size)) hA (tm := tM_) (N := 103) (f := wm_) (by decide) (hfl _ gm_7.1) (hfl _ gm_8.1) (hfl _ gm_8.2.1) (hfl _ gm_8.2.2) (fun j hj => hfl _ (gm_m j hj))
  obtain ⟨a4, a6, e4, s4⟩ := st_s (A := (wAz s.heap.size)) hA (tm := tT_) (N := 103) (f := wt_) (by decide) (hfl _ gm_7.2.1) (hfl _ gm_9.1) (hfl _ gm_9.2.1) (hfl _ gm_9.2.2) (fun j hj => hfl _ (gm_t j hj))
  obtain ⟨q1, e5⟩ := st_a (hfl _ gm_7.2.2.1)
  obtain ⟨q2, e6⟩ := st_a (hfl _ gm_7.2.2.2)
  obtain ⟨a2, e2, t2⟩ := va_Tof (tm := tN_) (ty := .int) (N := 3) (f := fun j => .int (([nI 100, nI 99, nI 99999] : List Int32).getD j 0)) (A := (wAz s.heap.size)) (by decide) (hfl _ gm_3.1) (va_eqt (hfl _ gm_3.2)) (fun j hj => va_eqt (hfl _ (gm_4 j hj))) hA
  have z2 : va_Z "NoseCensus$Reader" "MOST_NUMBERS" "[I" (.ref a2) (wAz s.heap.size) s s.heap := va_Zref (hts _ (ax_wd_mem (q := (3, 172)) (by decide +kernel))) (hts _ (ax_wd_mem (q := (1, 7)) (by decide +kernel))) e2 hA
  have z3 : va_Z "java/lang/String" "COMPACT_STRINGS" "Z" (.int 1) (wAz s.heap.size) s s.heap := va_Zof (hts _ (ax_wd_mem (q := (2, 51)) (by decide +kernel))) (hts _ (ax_wd_mem (q := (1, 9)) (by decide +kernel))) (va_eqi (hfl _ gm_1)) hA
  have z4 : va_Zq "jdk/internal/util/Preconditions" "SIOOBE_FORMATTER" "Ljava/util/function/BiFunction;" (wAz s.heap.size) s s.heap := va_Zqof (hts _ (ax_wd_mem (q := (2, 67)) (by decide +kernel))) (hts _ (ax_wd_mem (q := (1, 11)) (by decide +kernel))) (hfl _ gm_2) hA
  obtain ⟨u0, sen, hF⟩ := st_F (A := (wAz s.heap.size)) hA (hts _ (ax_wd_mem (q := (5, 219)) (by decide +kernel))) (hts _ (ax_wd_mem (q := (5, 221)) (by decide +kernel))) (hfl _ gm_5.1) (hfl _ gm_5.2)
  have hN := st_N (hfl _ gm_6)
  have r3 : vk_R "NoseCensusModel" 200 xM_ a3 s := vk_R.of (A := #[Value.ref b]) (hts _ (ax_wd_mem (q := (7, 50)) (by decide +kernel))) e3
  have r4 : vk_R "NoseCensus$Tokens" 18 xT_ a4 s := vk_R.of (A := #[Value.ref b]) (hts _ (ax_wd_mem (q := (2, 41)) (by decide +kernel))) e4
  have r5 : vk_R "NoseCensus" 141 "no such person" q1 s := vk_R.of (A := #[Value.ref b]) (hts _ (ax_wd_mem (q := (5, 232)) (by decide +kernel))) e5
  have r6 : vk_R "NoseCensus" 166 "no such what" q2 s := vk_R.of (A := #[Value.ref b]) (hts _ (ax_wd_mem (q := (6, 27)) (by decide +kernel))) e6
  have nw : ∀ w ∈ ax_nwl, va_Nw w s := by
    intro w hw
    have hm : w ∈ lw_tbl := by
      simp only [ax_nwl, List.mem_cons, List.not_mem_nil, or_false] at hw
      rcases hw with rfl | rfl | rfl | rfl | rfl | rfl | rfl | rfl
      · exact ax_wd_mem (q := (1, 35)) (by decide +kernel)
      · exact ax_wd_mem (q := (1, 41)) (by decide +kernel)
      · exact ax_wd_mem (q := (1, 161)) (by decide +kernel)
      · exact ax_wd_mem (q := (1, 196)) (by decide +kernel)
      · exact ax_wd_mem (q := (2, 3)) (by decide +kernel)
      · exact ax_wd_mem (q := (2, 153)) (by decide +kernel)
      · exact ax_wd_mem (q := (2, 173)) (by decide +kernel)
      · exact ax_wd_mem (q := (2, 215)) (by decide +kernel)
    obtain ⟨a, i, x, hh, rfl⟩ := nwl_m w hw
    exact va_Nw.of rfl (hts _ hm)
  obtain ⟨zf, a7, z5, hzf⟩ : ∃ (zf : Value) (a7 : Nat), va_Z "jdk/internal/util/Preconditions" "SIOOBE_FORMATTER" "Ljava/util/function/BiFunction;" zf (wAz s.heap.size) s s.heap ∧ (zf = .null ∨ zf = .ref a7) := by
    rcases z4 with z | ⟨t, z⟩
    · exact ⟨.null, 0, z, Or.inl rfl⟩
    · exact ⟨.ref t, t, z, Or.inr rfl⟩
  exact whole_two l hlf hL hx hb hr hml hown hts' hsc hbl hlk hK hzf t2 ⟨⟨hsc, hA b hbl⟩, z2, z3, z5, ⟨s3, s4⟩, ⟨r3, r4, r5, r6⟩, hF, hN, nw⟩
