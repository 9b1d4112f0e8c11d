def s_Math_absL : List (Nat × List ax_I) := [(0, [(.lload_n 0, 1, 0, 0, 0, 0, 0, 0), (.lconst 0, 1, 0, 0, 0, 0, 0, 0), (.lcmp, 1, 0, 0, 0, 0, 0, 0), (.ifCond .ge 8, 3, 11, 0, 0, 0, 0, 0), (.lload_n 0, 1, 0, 0, 0, 0, 0, 0), (.lneg, 1, 0, 0, 0, 0, 0, 0), (.goto 4, 3, 12, 0, 0, 0, 0, 0)]),
  (11, [(.lload_n 0, 1, 0, 0, 0, 0, 0, 0)]),
  (12, [(.lreturn, 1, 0, 0, 0, 0, 0, 0)])]
theorem k_Math_absL : s_Math_absL.all (fun q => ax_ckm m_Math_absL q.2 q.1) = true := by decide +kernel
theorem b_Math_absL {E : ax_E} {l : Launch} {d : Nat} {Ret : Option ax_V → ax_M → Prop} (i : Nat) {pc : Nat} {is : List ax_I} (hi : s_Math_absL[i]? = some (pc, is)) {ls : ax_L} {st : List ax_V} {M : ax_M} {kc ks : Nat} (h : ax_wp (ax_C E l d) (ax_T E l d m_Math_absL Ret) Ret 2 0 0 is pc ls st M kc ks) : ax_T E l d m_Math_absL Ret pc ls st M kc ks := ax_blk k_Math_absL i hi h
def s_Math_max : List (Nat × List ax_I) := [(0, [(.iload_n 0, 1, 0, 0, 0, 0, 0, 0), (.iload_n 1, 1, 1, 0, 0, 0, 0, 0), (.if_icmp .lt 7, 3, 9, 0, 0, 0, 0, 0), (.iload_n 0, 1, 0, 0, 0, 0, 0, 0), (.goto 4, 3, 10, 0, 0, 0, 0, 0)]),
  (9, [(.iload_n 1, 1, 1, 0, 0, 0, 0, 0)]),
  (10, [(.ireturn, 1, 0, 0, 0, 0, 0, 0)])]
theorem k_Math_max : s_Math_max.all (fun q => ax_ckm m_Math_max q.2 q.1) = true := by decide +kernel
theorem b_Math_max {E : ax_E} {l : Launch} {d : Nat} {Ret : Option ax_V → ax_M → Prop} (i : Nat) {pc : Nat} {is : List ax_I} (hi : s_Math_max[i]? = some (pc, is)) {ls : ax_L} {st : List ax_V} {M : ax_M} {kc ks : Nat} (h : ax_wp (ax_C E l d) (ax_T E l d m_Math_max Ret) Ret 0 0 0 is pc ls st M kc ks) : ax_T E l d m_Math_max Ret pc ls st M kc ks := ax_blk k_Math_max i hi h
def s_Math_maxL : List (Nat × List ax_I) := [(0, [(.lload_n 0, 1, 0, 0, 0, 0, 0, 0), (.lload_n 2, 1, 2, 0, 0, 0, 0, 0), (.lcmp, 1, 0, 0, 0, 0, 0, 0), (.ifCond .lt 7, 3, 10, 0, 0, 0, 0, 0), (.lload_n 0, 1, 0, 0, 0, 0, 0, 0), (.goto 4, 3, 11, 0, 0, 0, 0, 0)]),
  (10, [(.lload_n 2, 1, 2, 0, 0, 0, 0, 0)]),
  (11, [(.lreturn, 1, 0, 0, 0, 0, 0, 0)])]
theorem k_Math_maxL : s_Math_maxL.all (fun q => ax_ckm m_Math_maxL q.2 q.1) = true := by decide +kernel
theorem b_Math_maxL {E : ax_E} {l : Launch} {d : Nat} {Ret : Option ax_V → ax_M → Prop} (i : Nat) {pc : Nat} {is : List ax_I} (hi : s_Math_maxL[i]? = some (pc, is)) {ls : ax_L} {st : List ax_V} {M : ax_M} {kc ks : Nat} (h : ax_wp (ax_C E l d) (ax_T E l d m_Math_maxL Ret) Ret 2 0 0 is pc ls st M kc ks) : ax_T E l d m_Math_maxL Ret pc ls st M kc ks := ax_blk k_Math_maxL i hi h
def s_Math_min : List (Nat × List ax_I) := [(0, [(.iload_n 0, 1, 0, 0, 0, 0, 0, 0), (.iload_n 1, 1, 1, 0, 0, 0, 0, 0), (.if_icmp .gt 7, 3, 9, 0, 0, 0, 0, 0), (.iload_n 0, 1, 0, 0, 0, 0, 0, 0), (.goto 4, 3, 10, 0, 0, 0, 0, 0)]),
  (9, [(.iload_n 1, 1, 1, 0, 0, 0, 0, 0)]),
  (10, [(.ireturn, 1, 0, 0, 0, 0, 0, 0)])]
theorem k_Math_min : s_Math_min.all (fun q => ax_ckm m_Math_min q.2 q.1) = true := by decide +kernel
theorem b_Math_min {E : ax_E} {l : Launch} {d : Nat} {Ret : Option ax_V → ax_M → Prop} (i : Nat) {pc : Nat} {is : List ax_I} (hi : s_Math_min[i]? = some (pc, is)) {ls : ax_L} {st : List ax_V} {M : ax_M} {kc ks : Nat} (h : ax_wp (ax_C E l d) (ax_T E l d m_Math_min Ret) Ret 0 0 0 is pc ls st M kc ks) : ax_T E l d m_Math_min Ret pc ls st M kc ks := ax_blk k_Math_min i hi h
def s_Math_minL : List (Nat × List ax_I) := [(0, [(.lload_n 0, 1, 0, 0, 0, 0, 0, 0), (.lload_n 2, 1, 2, 0, 0, 0, 0, 0), (.lcmp, 1, 0, 0, 0, 0, 0, 0), (.ifCond .gt 7, 3, 10, 0, 0, 0, 0, 0), (.lload_n 0, 1, 0, 0, 0, 0, 0, 0), (.goto 4, 3, 11, 0, 0, 0, 0, 0)]),
  (10, [(.lload_n 2, 1, 2, 0, 0, 0, 0, 0)]),
  (11, [(.lreturn, 1, 0, 0, 0, 0, 0, 0)])]
theorem k_Math_minL : s_Math_minL.all (fun q => ax_ckm m_Math_minL q.2 q.1) = true := by decide +kernel
theorem b_Math_minL {E : ax_E} {l : Launch} {d : Nat} {Ret : Option ax_V → ax_M → Prop} (i : Nat) {pc : Nat} {is : List ax_I} (hi : s_Math_minL[i]? = some (pc, is)) {ls : ax_L} {st : List ax_V} {M : ax_M} {kc ks : Nat} (h : ax_wp (ax_C E l d) (ax_T E l d m_Math_minL Ret) Ret 2 0 0 is pc ls st M kc ks) : ax_T E l d m_Math_minL Ret pc ls st M kc ks := ax_blk k_Math_minL i hi h
