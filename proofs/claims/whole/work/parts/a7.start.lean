/-! ## what holds at the law's entry -/
def st_tmL : List (String × Nat) := [("CoverTwo$Telling", 51), ("CoverTwo$Telling", 61), ("CoverTwo$Tokens", 86), ("CoverTwo$Tokens", 90), ("CoverTwo$Tokens", 88), ("CoverTwo$Tokens", 92), ("CoverTwo$Telling", 113), ("CoverTwo$Telling", 124), ("CoverTwo$Telling", 126), ("CoverTwo$Telling", 128), ("CoverTwo$Telling", 130), ("CoverTwo$Telling", 152), ("CoverTwo$Telling", 167), ("CoverTwo$Telling", 199), ("CoverTwo$Telling", 213), ("CoverTwo$Telling", 215), ("CoverTwo$Telling", 217), ("CoverTwo$Telling", 219), ("CoverTwo$Telling", 224), ("CoverTwo", 304)]
def st_tm (i : Nat) : Term := .string (st_tmL.getD i ("", 0)).1 (st_tmL.getD i ("", 0)).2
def st_fl : List Cond := flatC (Jvm.Cond.and given_1 narrow_1)
set_option maxRecDepth 100000 in
theorem st_ex : ∀ i, i < 20 → Cond.exactly (st_tm i) "java/lang/String" ∈ st_fl := by decide +kernel
set_option maxRecDepth 100000 in
theorem st_co : ∀ i, i < 20 → Cond.eq (.field (st_tm i) "java/lang/String" "coder" "B") (.int 0) ∈ st_fl := by decide +kernel
set_option maxRecDepth 100000 in
theorem st_ar : ∀ i, i < 20 → Cond.arrayOf (.field (st_tm i) "java/lang/String" "value" "[B") .byte ∈ st_fl := by decide +kernel
set_option maxRecDepth 100000 in
theorem st_le : ∀ i, i < 20 → Cond.eq (.length (.field (st_tm i) "java/lang/String" "value" "[B")) (.int (Int32.ofNat (mj_sl.getD i 0))) ∈ st_fl := by decide +kernel
set_option maxRecDepth 100000 in
theorem st_el : ∀ i, i < 20 → ∀ j, j < mj_sl.getD i 0 → Cond.eq (.elem (.field (st_tm i) "java/lang/String" "value" "[B") (.int (Int32.ofNat j))) (.int ((mj_sby.getD i []).getD j 0)) ∈ st_fl := by decide +kernel
set_option maxRecDepth 100000 in
theorem st_al : ∀ q ∈ mj_sr, Term.string q.1 q.2.1 = st_tm q.2.2.2 ∨ Cond.eq (st_tm q.2.2.2) (Term.string q.1 q.2.1) ∈ st_fl := by decide +kernel
set_option maxRecDepth 100000 in
theorem st_lt : ∀ q ∈ mj_sr, q.2.2.2 < 20 := by decide +kernel
set_option maxRecDepth 100000 in
theorem st_sr : ∀ q ∈ mj_sr, Cond.stringRef q.1 q.2.1 q.2.2.1 ∈ lw_tbl := by decide +kernel
theorem st_inj : ∀ i, i < 20 → ∀ j, j < 20 → mj_sl.getD i 0 = mj_sl.getD j 0 → (∀ k, k < mj_sl.getD i 0 → (mj_sby.getD i []).getD k 0 = (mj_sby.getD j []).getD k 0) → i = j := by decide +kernel
set_option maxRecDepth 100000 in
theorem st_nF : ∀ q ∈ mj_nF, mj_fq q ∈ lw_tbl := by decide +kernel
set_option maxRecDepth 100000 in
theorem st_nM : ∀ q ∈ mj_nM, mj_mq q ∈ lw_tbl := by decide +kernel
set_option maxRecDepth 100000 in
theorem st_ins : ∀ ci, ci < 11 → Cond.instantiable (mj_R ci) (mj_N ci) ∈ lw_tbl := by decide +kernel
set_option maxRecDepth 100000 in
theorem st_ao : Cond.arrayOver (.array .int) ∈ lw_tbl := by decide +kernel
set_option maxRecDepth 100000 in
theorem st_ldw : ∀ w ∈ ld_W, w ∈ lw_tbl := by decide +kernel
set_option maxRecDepth 100000 in
theorem st_lsw : ∀ w ∈ [Cond.laysStatic "java/lang/String" "COMPACT_STRINGS" "Z", .initialized "java/lang/String", .laysStatic "jdk/internal/util/Preconditions" "SIOOBE_FORMATTER" "Ljava/util/function/BiFunction;", .initialized "jdk/internal/util/Preconditions", .laysStatic Bundle.tN "UNASSIGNED_STACK" Bundle.steD, .laysStatic Bundle.tN "SUPPRESSED_SENTINEL" Bundle.listD, .initialized Bundle.tN], w ∈ lw_tbl := by decide +kernel
set_option maxRecDepth 100000 in
theorem st_na : ∀ w ∈ [Cond.eq (.static "java/lang/String" "COMPACT_STRINGS" "Z") (.int 1), .isRef (.static "jdk/internal/util/Preconditions" "SIOOBE_FORMATTER" "Ljava/util/function/BiFunction;"), .isRef (.static Bundle.tN "UNASSIGNED_STACK" Bundle.steD), .isRef (.static Bundle.tN "SUPPRESSED_SENTINEL" Bundle.listD)], w ∈ st_fl := by decide +kernel
