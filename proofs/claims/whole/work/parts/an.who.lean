/-! the start: what the premises say -/
abbrev gn_ : Cond := Jvm.Cond.and given_1 narrow_1
abbrev tM_ : Term := .string "NoseCensusModel" 200
abbrev tT_ : Term := .string "NoseCensus$Tokens" 18
abbrev tN_ : Term := .static "NoseCensus$Reader" "MOST_NUMBERS" "[I"
abbrev xM_ : String := "house person coat dish dog wind tax seed law smell nose due or and not force kind heads air place year "
abbrev xT_ : String := "force kind heads dish air place year smell nose due or and not house person coat dog wind tax seed law "
theorem gm_1 : Cond.eq (.static "java/lang/String" "COMPACT_STRINGS" "Z") (.int 1) ∈ flatC gn_ := by decide +kernel
theorem gm_2 : Cond.isRef (.static "jdk/internal/util/Preconditions" "SIOOBE_FORMATTER" "Ljava/util/function/BiFunction;") ∈ flatC gn_ := by decide +kernel
theorem gm_3 : Cond.arrayOf tN_ .int ∈ flatC gn_ ∧ Cond.eq (.length tN_) (.int (Int32.ofNat 3)) ∈ flatC gn_ := by decide +kernel
theorem gm_4 : ∀ j, j < 3 → Cond.eq (.elem tN_ (.int (Int32.ofNat j))) (.int (([nI 100, nI 99, nI 99999] : List Int32).getD j 0)) ∈ flatC gn_ := by decide +kernel
theorem gm_5 : Cond.isRef (.static Bundle.tN "UNASSIGNED_STACK" Bundle.steD) ∈ flatC gn_ ∧ Cond.isRef (.static Bundle.tN "SUPPRESSED_SENTINEL" Bundle.listD) ∈ flatC gn_ := by decide +kernel
theorem gm_6 : Cond.not (.castable "java/util/NoSuchElementException" "java/lang/IndexOutOfBoundsException") ∈ flatC gn_ := by decide +kernel
theorem gm_7 : Cond.exactly tM_ "java/lang/String" ∈ flatC gn_ ∧ Cond.exactly tT_ "java/lang/String" ∈ flatC gn_ ∧ Cond.exactly (.string "NoseCensus" 141) "java/lang/String" ∈ flatC gn_ ∧ Cond.exactly (.string "NoseCensus" 166) "java/lang/String" ∈ flatC gn_ := by decide +kernel
theorem gm_8 : Cond.eq (.field tM_ "java/lang/String" "coder" "B") (.int 0) ∈ flatC gn_ ∧ Cond.arrayOf (.field tM_ "java/lang/String" "value" "[B") .byte ∈ flatC gn_ ∧ Cond.eq (.length (.field tM_ "java/lang/String" "value" "[B")) (.int (Int32.ofNat 103)) ∈ flatC gn_ := by decide +kernel
theorem gm_9 : Cond.eq (.field tT_ "java/lang/String" "coder" "B") (.int 0) ∈ flatC gn_ ∧ Cond.arrayOf (.field tT_ "java/lang/String" "value" "[B") .byte ∈ flatC gn_ ∧ Cond.eq (.length (.field tT_ "java/lang/String" "value" "[B")) (.int (Int32.ofNat 103)) ∈ flatC gn_ := by decide +kernel
theorem gm_ml : ((flatC gn_).drop 191).take 103 = (List.range 103).map (fun j => Cond.eq (.elem (.field tM_ "java/lang/String" "value" "[B") (.int (Int32.ofNat j))) (.int (nI (wm_ j)))) := by decide +kernel
theorem gm_tl : ((flatC gn_).drop 47).take 103 = (List.range 103).map (fun j => Cond.eq (.elem (.field tT_ "java/lang/String" "value" "[B") (.int (Int32.ofNat j))) (.int (nI (wt_ j)))) := by decide +kernel
theorem gm_m (j : Nat) (hj : j < 103) : Cond.eq (.elem (.field tM_ "java/lang/String" "value" "[B") (.int (Int32.ofNat j))) (.int (nI (wm_ j))) ∈ flatC gn_ := by
  refine List.mem_of_mem_drop (List.mem_of_mem_take (i := 103) (l := (flatC gn_).drop 191) ?_)
  rw [gm_ml]
  exact List.mem_map.mpr ⟨j, List.mem_range.mpr hj, rfl⟩
theorem gm_t (j : Nat) (hj : j < 103) : Cond.eq (.elem (.field tT_ "java/lang/String" "value" "[B") (.int (Int32.ofNat j))) (.int (nI (wt_ j))) ∈ flatC gn_ := by
  refine List.mem_of_mem_drop (List.mem_of_mem_take (i := 103) (l := (flatC gn_).drop 47) ?_)
  rw [gm_tl]
  exact List.mem_map.mpr ⟨j, List.mem_range.mpr hj, rfl⟩
theorem wm_128 : ∀ j, j < 103 → wm_ j < 128 := by decide +kernel
