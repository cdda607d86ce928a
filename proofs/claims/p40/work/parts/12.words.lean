/-! TABLES: what the claim's words say of them -/
theorem gm_asc_mem {α : Type} : ∀ {l : List (Nat × α)} {k : Nat} {a : α}, gm_asc l k = some a → (k, a) ∈ l
  | [], k, a, h => by simp [gm_asc] at h
  | (k0, a0) :: l, k, a, h => by
    simp only [gm_asc] at h
    cases hb : Nat.beq k0 k with
    | true =>
      rw [hb] at h
      simp only [cond_true, Option.some.injEq] at h
      rw [Nat.eq_of_beq_eq_true hb, h]
      exact List.mem_cons_self
    | false =>
      rw [hb] at h
      exact List.mem_cons_of_mem _ (gm_asc_mem h)
theorem gm_asc_all {α : Type} {l : List (Nat × α)} {P : Nat → α → Prop} (hl : ∀ x ∈ l, P x.1 x.2) {k : Nat} {a : α} (h : gm_asc l k = some a) : P k a := hl (k, a) (gm_asc_mem h)

theorem gm_u0 : Cond.selects RX3 yX3_firstUnmet yX3_firstUnmet ∈ gm_U := gm_U_in (List.mem_of_getElem? (l := lw_tbl) (i := 0) (by decide +kernel)) rfl
theorem gm_u1 : Cond.selects RX6 yX6_checkLetter yX6_checkLetter ∈ gm_U := gm_U_in (List.mem_of_getElem? (l := lw_tbl) (i := 1) (by decide +kernel)) rfl
theorem gm_u3 : Cond.selects RX4 yX4_find yX4_find ∈ gm_U := gm_U_in (List.mem_of_getElem? (l := lw_tbl) (i := 3) (by decide +kernel)) rfl
theorem gm_u4 : Cond.selects RX6 yX6_madeOrThrow yX6_madeOrThrow ∈ gm_U := gm_U_in (List.mem_of_getElem? (l := lw_tbl) (i := 4) (by decide +kernel)) rfl
theorem gm_u5 : Cond.selects RX6 yX6_checkTerm yX6_checkTerm ∈ gm_U := gm_U_in (List.mem_of_getElem? (l := lw_tbl) (i := 5) (by decide +kernel)) rfl
theorem gm_u6 : Cond.selects RX4 yX4_leftOf yX4_leftOf ∈ gm_U := gm_U_in (List.mem_of_getElem? (l := lw_tbl) (i := 6) (by decide +kernel)) rfl
theorem gm_u7 : Cond.selects RX4 yX4_rightOf yX4_rightOf ∈ gm_U := gm_U_in (List.mem_of_getElem? (l := lw_tbl) (i := 7) (by decide +kernel)) rfl
theorem gm_u8 : Cond.selects RX4 yX4_headOf yX4_headOf ∈ gm_U := gm_U_in (List.mem_of_getElem? (l := lw_tbl) (i := 8) (by decide +kernel)) rfl
theorem gm_u9 : Cond.selects RX6 yX6_ruleOrThrow yX6_ruleOrThrow ∈ gm_U := gm_U_in (List.mem_of_getElem? (l := lw_tbl) (i := 9) (by decide +kernel)) rfl
theorem gm_u10 : Cond.selects RX1 yX1_ruleAt yX1_ruleAt ∈ gm_U := gm_U_in (List.mem_of_getElem? (l := lw_tbl) (i := 10) (by decide +kernel)) rfl
theorem gm_u11 : Cond.selects RX1 yX1_ruleOfPair yX1_ruleOfPair ∈ gm_U := gm_U_in (List.mem_of_getElem? (l := lw_tbl) (i := 11) (by decide +kernel)) rfl
theorem gm_u12 : Cond.selects RX6 yX6_checkStatement yX6_checkStatement ∈ gm_U := gm_U_in (List.mem_of_getElem? (l := lw_tbl) (i := 12) (by decide +kernel)) rfl
theorem gm_u13 : Cond.selects RX6 yX6_placesOf yX6_placesOf ∈ gm_U := gm_U_in (List.mem_of_getElem? (l := lw_tbl) (i := 13) (by decide +kernel)) rfl
theorem gm_u14 : Cond.selects RX6 yX6_checkRegion yX6_checkRegion ∈ gm_U := gm_U_in (List.mem_of_getElem? (l := lw_tbl) (i := 14) (by decide +kernel)) rfl
theorem gm_u15 : Cond.selects RX6 yX6_checkGoal yX6_checkGoal ∈ gm_U := gm_U_in (List.mem_of_getElem? (l := lw_tbl) (i := 15) (by decide +kernel)) rfl
theorem gm_u16 : Cond.selects RX2 yX2_want yX2_want ∈ gm_U := gm_U_in (List.mem_of_getElem? (l := lw_tbl) (i := 16) (by decide +kernel)) rfl
theorem gm_u17 : Cond.selects RX2 yX2_fewestFrom yX2_fewestFrom ∈ gm_U := gm_U_in (List.mem_of_getElem? (l := lw_tbl) (i := 17) (by decide +kernel)) rfl
theorem gm_u18 : Cond.selects RX6 yX6_leastOrThrow yX6_leastOrThrow ∈ gm_U := gm_U_in (List.mem_of_getElem? (l := lw_tbl) (i := 18) (by decide +kernel)) rfl
theorem gm_u19 : Cond.selects RX6 yX6_checkElements yX6_checkElements ∈ gm_U := gm_U_in (List.mem_of_getElem? (l := lw_tbl) (i := 19) (by decide +kernel)) rfl
theorem gm_u20 : Cond.selects RX3 yX3_isSetOfDemands yX3_isSetOfDemands ∈ gm_U := gm_U_in (List.mem_of_getElem? (l := lw_tbl) (i := 20) (by decide +kernel)) rfl
theorem gm_u21 : Cond.selects RX3 yX3_placesOfSet yX3_placesOfSet ∈ gm_U := gm_U_in (List.mem_of_getElem? (l := lw_tbl) (i := 21) (by decide +kernel)) rfl
theorem gm_u22 : Cond.selects RX6 yX6_makePair yX6_makePair ∈ gm_U := gm_U_in (List.mem_of_getElem? (l := lw_tbl) (i := 22) (by decide +kernel)) rfl
theorem gm_u23 : Cond.selects RX6 yX6_rewriteOrThrow yX6_rewriteOrThrow ∈ gm_U := gm_U_in (List.mem_of_getElem? (l := lw_tbl) (i := 23) (by decide +kernel)) rfl
theorem gm_u24 : Cond.selects RX1 yX1_putRewritten yX1_putRewritten ∈ gm_U := gm_U_in (List.mem_of_getElem? (l := lw_tbl) (i := 24) (by decide +kernel)) rfl
theorem gm_u25 : Cond.selects RX1 yX1_putComplements yX1_putComplements ∈ gm_U := gm_U_in (List.mem_of_getElem? (l := lw_tbl) (i := 25) (by decide +kernel)) rfl
theorem gm_u26 : Cond.selects RX1 yX1_putDifferences yX1_putDifferences ∈ gm_U := gm_U_in (List.mem_of_getElem? (l := lw_tbl) (i := 26) (by decide +kernel)) rfl
theorem gm_u27 : Cond.selects RX1 yX1_putOtherSide yX1_putOtherSide ∈ gm_U := gm_U_in (List.mem_of_getElem? (l := lw_tbl) (i := 27) (by decide +kernel)) rfl
theorem gm_u28 : Cond.selects RX4 yX4_makeNext yX4_makeNext ∈ gm_U := gm_U_in (List.mem_of_getElem? (l := lw_tbl) (i := 28) (by decide +kernel)) rfl
theorem gm_u29 : Cond.selects RX4 yX4_reachesBelow yX4_reachesBelow ∈ gm_U := gm_U_in (List.mem_of_getElem? (l := lw_tbl) (i := 29) (by decide +kernel)) rfl
theorem gm_u30 : Cond.selects RX0 yX0_joinParts yX0_joinParts ∈ gm_U := gm_U_in (List.mem_of_getElem? (l := lw_tbl) (i := 30) (by decide +kernel)) rfl
theorem gm_u31 : Cond.selects RX0 yX0_isInLarger yX0_isInLarger ∈ gm_U := gm_U_in (List.mem_of_getElem? (l := lw_tbl) (i := 31) (by decide +kernel)) rfl
theorem gm_u32 : Cond.selects RX3 yX3_allHold yX3_allHold ∈ gm_U := gm_U_in (List.mem_of_getElem? (l := lw_tbl) (i := 32) (by decide +kernel)) rfl
theorem gm_u33 : Cond.selects RX2 yX2_canMeet yX2_canMeet ∈ gm_U := gm_U_in (List.mem_of_getElem? (l := lw_tbl) (i := 33) (by decide +kernel)) rfl
theorem gm_u34 : Cond.initialized RL ∈ gm_U := gm_U_in (List.mem_of_getElem? (l := lw_tbl) (i := 34) (by decide +kernel)) rfl
theorem gm_u35 : Cond.initialized RX6 ∈ gm_U := gm_U_in (List.mem_of_getElem? (l := lw_tbl) (i := 35) (by decide +kernel)) rfl
theorem gm_u36 : Cond.initialized RX4 ∈ gm_U := gm_U_in (List.mem_of_getElem? (l := lw_tbl) (i := 36) (by decide +kernel)) rfl
theorem gm_u37 : Cond.initialized RX1 ∈ gm_U := gm_U_in (List.mem_of_getElem? (l := lw_tbl) (i := 37) (by decide +kernel)) rfl
theorem gm_u38 : Cond.initialized RX5 ∈ gm_U := gm_U_in (List.mem_of_getElem? (l := lw_tbl) (i := 38) (by decide +kernel)) rfl
theorem gm_u39 : Cond.initialized RX0 ∈ gm_U := gm_U_in (List.mem_of_getElem? (l := lw_tbl) (i := 39) (by decide +kernel)) rfl
theorem gm_u40 : Cond.initialized RX3 ∈ gm_U := gm_U_in (List.mem_of_getElem? (l := lw_tbl) (i := 40) (by decide +kernel)) rfl
theorem gm_u41 : Cond.initialized RX2 ∈ gm_U := gm_U_in (List.mem_of_getElem? (l := lw_tbl) (i := 41) (by decide +kernel)) rfl
theorem gm_u48 : Cond.initialized RJ6 ∈ gm_U := gm_U_in (List.mem_of_getElem? (l := lw_tbl) (i := 48) (by decide +kernel)) rfl
theorem gm_u51 : Cond.initialized RJ9 ∈ gm_U := gm_U_in (List.mem_of_getElem? (l := lw_tbl) (i := 51) (by decide +kernel)) rfl
theorem gm_u53 : Cond.initialized RX7 ∈ gm_U := gm_U_in (List.mem_of_getElem? (l := lw_tbl) (i := 53) (by decide +kernel)) rfl
theorem gm_u55 : Cond.initialized RJ4 ∈ gm_U := gm_U_in (List.mem_of_getElem? (l := lw_tbl) (i := 55) (by decide +kernel)) rfl
theorem gm_u64 : Cond.classLink RL 9 RX6 ∈ gm_U := gm_U_in (List.mem_of_getElem? (l := lw_tbl) (i := 64) (by decide +kernel)) rfl
theorem gm_u65 : Cond.instantiable RX6 5 ∈ gm_U := gm_U_in (List.mem_of_getElem? (l := lw_tbl) (i := 65) (by decide +kernel)) rfl
theorem gm_u66 : Cond.methodLink RL 270 yX6_init ∈ gm_U := gm_U_in (List.mem_of_getElem? (l := lw_tbl) (i := 66) (by decide +kernel)) rfl
theorem gm_u67 : Cond.instanceMethod yX6_init ∈ gm_U := gm_U_in (List.mem_of_getElem? (l := lw_tbl) (i := 67) (by decide +kernel)) rfl
theorem gm_u68 : Cond.code yX6_init cX6_init 1 none ∈ gm_U := gm_U_in (List.mem_of_getElem? (l := lw_tbl) (i := 68) (by decide +kernel)) rfl
theorem gm_u69 : Cond.methodLink RX6 1 objectInit ∈ gm_U := gm_U_in (List.mem_of_getElem? (l := lw_tbl) (i := 69) (by decide +kernel)) rfl
theorem gm_u70 : Cond.instanceMethod objectInit ∈ gm_U := gm_U_in (List.mem_of_getElem? (l := lw_tbl) (i := 70) (by decide +kernel)) rfl
theorem gm_u71 : Cond.code objectInit ⟨#[0xb1]⟩ 1 none ∈ gm_U := gm_U_in (List.mem_of_getElem? (l := lw_tbl) (i := 71) (by decide +kernel)) rfl
theorem gm_u72 : Cond.classLink RX6 7 RX4 ∈ gm_U := gm_U_in (List.mem_of_getElem? (l := lw_tbl) (i := 72) (by decide +kernel)) rfl
theorem gm_u73 : Cond.instantiable RX4 6 ∈ gm_U := gm_U_in (List.mem_of_getElem? (l := lw_tbl) (i := 73) (by decide +kernel)) rfl
theorem gm_u75 : Cond.instanceMethod yX4_init ∈ gm_U := gm_U_in (List.mem_of_getElem? (l := lw_tbl) (i := 75) (by decide +kernel)) rfl
theorem gm_u76 : Cond.code yX4_init cX4_init 1 none ∈ gm_U := gm_U_in (List.mem_of_getElem? (l := lw_tbl) (i := 76) (by decide +kernel)) rfl
theorem gm_u77 : Cond.methodLink RX4 3 objectInit ∈ gm_U := gm_U_in (List.mem_of_getElem? (l := lw_tbl) (i := 77) (by decide +kernel)) rfl
theorem gm_u78 : Cond.fieldLink RX4 9 "Gimlet$Terms" "heads" "[C" ∈ gm_U := gm_U_in (List.mem_of_getElem? (l := lw_tbl) (i := 78) (by decide +kernel)) rfl
theorem gm_u79 : Cond.fieldLink RX4 15 "Gimlet$Terms" "lefts" "[I" ∈ gm_U := gm_U_in (List.mem_of_getElem? (l := lw_tbl) (i := 79) (by decide +kernel)) rfl
theorem gm_u80 : Cond.fieldLink RX4 19 "Gimlet$Terms" "rights" "[I" ∈ gm_U := gm_U_in (List.mem_of_getElem? (l := lw_tbl) (i := 80) (by decide +kernel)) rfl
theorem gm_u81 : Cond.fieldLink RX4 22 "Gimlet$Terms" "sizes" "[I" ∈ gm_U := gm_U_in (List.mem_of_getElem? (l := lw_tbl) (i := 81) (by decide +kernel)) rfl
theorem gm_u82 : Cond.fieldLink RX4 25 "Gimlet$Terms" "covered" "[I" ∈ gm_U := gm_U_in (List.mem_of_getElem? (l := lw_tbl) (i := 82) (by decide +kernel)) rfl
theorem gm_u83 : Cond.fieldLink RX4 28 "Gimlet$Terms" "count" "I" ∈ gm_U := gm_U_in (List.mem_of_getElem? (l := lw_tbl) (i := 83) (by decide +kernel)) rfl
theorem gm_u84 : Cond.laysFinal RX4 "Gimlet$Terms" "heads" "[C" ∈ gm_U := gm_U_in (List.mem_of_getElem? (l := lw_tbl) (i := 84) (by decide +kernel)) rfl
theorem gm_u86 : Cond.laysFinal RX4 "Gimlet$Terms" "lefts" "[I" ∈ gm_U := gm_U_in (List.mem_of_getElem? (l := lw_tbl) (i := 86) (by decide +kernel)) rfl
theorem gm_u88 : Cond.laysFinal RX4 "Gimlet$Terms" "rights" "[I" ∈ gm_U := gm_U_in (List.mem_of_getElem? (l := lw_tbl) (i := 88) (by decide +kernel)) rfl
theorem gm_u90 : Cond.laysFinal RX4 "Gimlet$Terms" "sizes" "[I" ∈ gm_U := gm_U_in (List.mem_of_getElem? (l := lw_tbl) (i := 90) (by decide +kernel)) rfl
theorem gm_u92 : Cond.laysFinal RX4 "Gimlet$Terms" "covered" "[I" ∈ gm_U := gm_U_in (List.mem_of_getElem? (l := lw_tbl) (i := 92) (by decide +kernel)) rfl
theorem gm_u94 : Cond.lays RX4 "Gimlet$Terms" "count" "I" ∈ gm_U := gm_U_in (List.mem_of_getElem? (l := lw_tbl) (i := 94) (by decide +kernel)) rfl
theorem gm_u97 : Cond.arrayClass .char ∈ gm_U := gm_U_in (List.mem_of_getElem? (l := lw_tbl) (i := 97) (by decide +kernel)) rfl
theorem gm_u98 : Cond.arrayClass .int ∈ gm_U := gm_U_in (List.mem_of_getElem? (l := lw_tbl) (i := 98) (by decide +kernel)) rfl
theorem gm_u99 : Cond.classLink RX6 16 RX1 ∈ gm_U := gm_U_in (List.mem_of_getElem? (l := lw_tbl) (i := 99) (by decide +kernel)) rfl
theorem gm_u100 : Cond.instantiable RX1 4 ∈ gm_U := gm_U_in (List.mem_of_getElem? (l := lw_tbl) (i := 100) (by decide +kernel)) rfl
theorem gm_u102 : Cond.instanceMethod yX1_init ∈ gm_U := gm_U_in (List.mem_of_getElem? (l := lw_tbl) (i := 102) (by decide +kernel)) rfl
theorem gm_u103 : Cond.code yX1_init cX1_init 1 none ∈ gm_U := gm_U_in (List.mem_of_getElem? (l := lw_tbl) (i := 103) (by decide +kernel)) rfl
theorem gm_u104 : Cond.methodLink RX1 3 objectInit ∈ gm_U := gm_U_in (List.mem_of_getElem? (l := lw_tbl) (i := 104) (by decide +kernel)) rfl
theorem gm_u105 : Cond.classLink RX1 9 RX5 ∈ gm_U := gm_U_in (List.mem_of_getElem? (l := lw_tbl) (i := 105) (by decide +kernel)) rfl
theorem gm_u106 : Cond.instantiable RX5 4 ∈ gm_U := gm_U_in (List.mem_of_getElem? (l := lw_tbl) (i := 106) (by decide +kernel)) rfl
theorem gm_u108 : Cond.instanceMethod yX5_init ∈ gm_U := gm_U_in (List.mem_of_getElem? (l := lw_tbl) (i := 108) (by decide +kernel)) rfl
theorem gm_u109 : Cond.code yX5_init cX5_init 1 none ∈ gm_U := gm_U_in (List.mem_of_getElem? (l := lw_tbl) (i := 109) (by decide +kernel)) rfl
theorem gm_u110 : Cond.methodLink RX5 3 objectInit ∈ gm_U := gm_U_in (List.mem_of_getElem? (l := lw_tbl) (i := 110) (by decide +kernel)) rfl
theorem gm_u111 : Cond.fieldLink RX5 11 "Gimlet$Text" "row" "[C" ∈ gm_U := gm_U_in (List.mem_of_getElem? (l := lw_tbl) (i := 111) (by decide +kernel)) rfl
theorem gm_u112 : Cond.fieldLink RX5 15 "Gimlet$Text" "ends" "[I" ∈ gm_U := gm_U_in (List.mem_of_getElem? (l := lw_tbl) (i := 112) (by decide +kernel)) rfl
theorem gm_u113 : Cond.fieldLink RX5 19 "Gimlet$Text" "length" "I" ∈ gm_U := gm_U_in (List.mem_of_getElem? (l := lw_tbl) (i := 113) (by decide +kernel)) rfl
theorem gm_u114 : Cond.fieldLink RX5 23 "Gimlet$Text" "cursor" "I" ∈ gm_U := gm_U_in (List.mem_of_getElem? (l := lw_tbl) (i := 114) (by decide +kernel)) rfl
theorem gm_u115 : Cond.laysFinal RX5 "Gimlet$Text" "row" "[C" ∈ gm_U := gm_U_in (List.mem_of_getElem? (l := lw_tbl) (i := 115) (by decide +kernel)) rfl
theorem gm_u117 : Cond.laysFinal RX5 "Gimlet$Text" "ends" "[I" ∈ gm_U := gm_U_in (List.mem_of_getElem? (l := lw_tbl) (i := 117) (by decide +kernel)) rfl
theorem gm_u119 : Cond.lays RX5 "Gimlet$Text" "length" "I" ∈ gm_U := gm_U_in (List.mem_of_getElem? (l := lw_tbl) (i := 119) (by decide +kernel)) rfl
theorem gm_u121 : Cond.lays RX5 "Gimlet$Text" "cursor" "I" ∈ gm_U := gm_U_in (List.mem_of_getElem? (l := lw_tbl) (i := 121) (by decide +kernel)) rfl
theorem gm_u124 : Cond.fieldLink RX1 12 "Gimlet$Rewriter" "now" "LGimlet$Text;" ∈ gm_U := gm_U_in (List.mem_of_getElem? (l := lw_tbl) (i := 124) (by decide +kernel)) rfl
theorem gm_u125 : Cond.fieldLink RX1 18 "Gimlet$Rewriter" "next" "LGimlet$Text;" ∈ gm_U := gm_U_in (List.mem_of_getElem? (l := lw_tbl) (i := 125) (by decide +kernel)) rfl
theorem gm_u126 : Cond.fieldLink RX1 21 "Gimlet$Rewriter" "place" "I" ∈ gm_U := gm_U_in (List.mem_of_getElem? (l := lw_tbl) (i := 126) (by decide +kernel)) rfl
theorem gm_u127 : Cond.fieldLink RX1 25 "Gimlet$Rewriter" "rule" "C" ∈ gm_U := gm_U_in (List.mem_of_getElem? (l := lw_tbl) (i := 127) (by decide +kernel)) rfl
theorem gm_u128 : Cond.lays RX1 "Gimlet$Rewriter" "now" "LGimlet$Text;" ∈ gm_U := gm_U_in (List.mem_of_getElem? (l := lw_tbl) (i := 128) (by decide +kernel)) rfl
theorem gm_u130 : Cond.lays RX1 "Gimlet$Rewriter" "next" "LGimlet$Text;" ∈ gm_U := gm_U_in (List.mem_of_getElem? (l := lw_tbl) (i := 130) (by decide +kernel)) rfl
theorem gm_u132 : Cond.lays RX1 "Gimlet$Rewriter" "place" "I" ∈ gm_U := gm_U_in (List.mem_of_getElem? (l := lw_tbl) (i := 132) (by decide +kernel)) rfl
theorem gm_u134 : Cond.lays RX1 "Gimlet$Rewriter" "rule" "C" ∈ gm_U := gm_U_in (List.mem_of_getElem? (l := lw_tbl) (i := 134) (by decide +kernel)) rfl
theorem gm_u137 : Cond.classLink RX6 23 RX0 ∈ gm_U := gm_U_in (List.mem_of_getElem? (l := lw_tbl) (i := 137) (by decide +kernel)) rfl
theorem gm_u138 : Cond.instantiable RX0 3 ∈ gm_U := gm_U_in (List.mem_of_getElem? (l := lw_tbl) (i := 138) (by decide +kernel)) rfl
theorem gm_u139 : Cond.methodLink RX6 25 yX0_init ∈ gm_U := gm_U_in (List.mem_of_getElem? (l := lw_tbl) (i := 139) (by decide +kernel)) rfl
theorem gm_u140 : Cond.instanceMethod yX0_init ∈ gm_U := gm_U_in (List.mem_of_getElem? (l := lw_tbl) (i := 140) (by decide +kernel)) rfl
theorem gm_u141 : Cond.code yX0_init cX0_init 2 none ∈ gm_U := gm_U_in (List.mem_of_getElem? (l := lw_tbl) (i := 141) (by decide +kernel)) rfl
theorem gm_u142 : Cond.methodLink RX0 3 objectInit ∈ gm_U := gm_U_in (List.mem_of_getElem? (l := lw_tbl) (i := 142) (by decide +kernel)) rfl
theorem gm_u143 : Cond.methodLink RX0 22 yX0_regionsIn ∈ gm_U := gm_U_in (List.mem_of_getElem? (l := lw_tbl) (i := 143) (by decide +kernel)) rfl
theorem gm_u144 : Cond.static yX0_regionsIn ∈ gm_U := gm_U_in (List.mem_of_getElem? (l := lw_tbl) (i := 144) (by decide +kernel)) rfl
theorem gm_u145 : Cond.code yX0_regionsIn cX0_regionsIn 3 (some .int) ∈ gm_U := gm_U_in (List.mem_of_getElem? (l := lw_tbl) (i := 145) (by decide +kernel)) rfl
theorem gm_u146 : Cond.methodLink RX0 30 yX0_contains ∈ gm_U := gm_U_in (List.mem_of_getElem? (l := lw_tbl) (i := 146) (by decide +kernel)) rfl
theorem gm_u147 : Cond.static yX0_contains ∈ gm_U := gm_U_in (List.mem_of_getElem? (l := lw_tbl) (i := 147) (by decide +kernel)) rfl
theorem gm_u148 : Cond.code yX0_contains cX0_contains 4 (some .boolean) ∈ gm_U := gm_U_in (List.mem_of_getElem? (l := lw_tbl) (i := 148) (by decide +kernel)) rfl
theorem gm_u149 : Cond.methodLink RX0 26 yX0_digitOf ∈ gm_U := gm_U_in (List.mem_of_getElem? (l := lw_tbl) (i := 149) (by decide +kernel)) rfl
theorem gm_u150 : Cond.static yX0_digitOf ∈ gm_U := gm_U_in (List.mem_of_getElem? (l := lw_tbl) (i := 150) (by decide +kernel)) rfl
theorem gm_u151 : Cond.code yX0_digitOf cX0_digitOf 2 (some .int) ∈ gm_U := gm_U_in (List.mem_of_getElem? (l := lw_tbl) (i := 151) (by decide +kernel)) rfl
theorem gm_u153 : Cond.static yX6_isIn ∈ gm_U := gm_U_in (List.mem_of_getElem? (l := lw_tbl) (i := 153) (by decide +kernel)) rfl
theorem gm_u154 : Cond.code yX6_isIn cX6_isIn 2 (some .boolean) ∈ gm_U := gm_U_in (List.mem_of_getElem? (l := lw_tbl) (i := 154) (by decide +kernel)) rfl
theorem gm_u155 : Cond.fieldLink RX0 11 "Gimlet$Cubes" "contained" "[I" ∈ gm_U := gm_U_in (List.mem_of_getElem? (l := lw_tbl) (i := 155) (by decide +kernel)) rfl
theorem gm_u156 : Cond.fieldLink RX0 15 "Gimlet$Cubes" "implicant" "[Z" ∈ gm_U := gm_U_in (List.mem_of_getElem? (l := lw_tbl) (i := 156) (by decide +kernel)) rfl
theorem gm_u157 : Cond.fieldLink RX0 19 "Gimlet$Cubes" "joined" "[Z" ∈ gm_U := gm_U_in (List.mem_of_getElem? (l := lw_tbl) (i := 157) (by decide +kernel)) rfl
theorem gm_u158 : Cond.laysFinal RX0 "Gimlet$Cubes" "contained" "[I" ∈ gm_U := gm_U_in (List.mem_of_getElem? (l := lw_tbl) (i := 158) (by decide +kernel)) rfl
theorem gm_u160 : Cond.laysFinal RX0 "Gimlet$Cubes" "implicant" "[Z" ∈ gm_U := gm_U_in (List.mem_of_getElem? (l := lw_tbl) (i := 160) (by decide +kernel)) rfl
theorem gm_u162 : Cond.laysFinal RX0 "Gimlet$Cubes" "joined" "[Z" ∈ gm_U := gm_U_in (List.mem_of_getElem? (l := lw_tbl) (i := 162) (by decide +kernel)) rfl
theorem gm_u165 : Cond.arrayClass .boolean ∈ gm_U := gm_U_in (List.mem_of_getElem? (l := lw_tbl) (i := 165) (by decide +kernel)) rfl
theorem gm_u166 : Cond.classLink RX6 30 RX3 ∈ gm_U := gm_U_in (List.mem_of_getElem? (l := lw_tbl) (i := 166) (by decide +kernel)) rfl
theorem gm_u167 : Cond.instantiable RX3 6 ∈ gm_U := gm_U_in (List.mem_of_getElem? (l := lw_tbl) (i := 167) (by decide +kernel)) rfl
theorem gm_u169 : Cond.instanceMethod yX3_init ∈ gm_U := gm_U_in (List.mem_of_getElem? (l := lw_tbl) (i := 169) (by decide +kernel)) rfl
theorem gm_u170 : Cond.code yX3_init cX3_init 1 none ∈ gm_U := gm_U_in (List.mem_of_getElem? (l := lw_tbl) (i := 170) (by decide +kernel)) rfl
theorem gm_u171 : Cond.methodLink RX3 3 objectInit ∈ gm_U := gm_U_in (List.mem_of_getElem? (l := lw_tbl) (i := 171) (by decide +kernel)) rfl
theorem gm_u172 : Cond.fieldLink RX3 9 "Gimlet$Statements" "demanding" "[Z" ∈ gm_U := gm_U_in (List.mem_of_getElem? (l := lw_tbl) (i := 172) (by decide +kernel)) rfl
theorem gm_u173 : Cond.fieldLink RX3 15 "Gimlet$Statements" "places" "[I" ∈ gm_U := gm_U_in (List.mem_of_getElem? (l := lw_tbl) (i := 173) (by decide +kernel)) rfl
theorem gm_u174 : Cond.fieldLink RX3 19 "Gimlet$Statements" "count" "I" ∈ gm_U := gm_U_in (List.mem_of_getElem? (l := lw_tbl) (i := 174) (by decide +kernel)) rfl
theorem gm_u175 : Cond.fieldLink RX3 23 "Gimlet$Statements" "goalSet" "Z" ∈ gm_U := gm_U_in (List.mem_of_getElem? (l := lw_tbl) (i := 175) (by decide +kernel)) rfl
theorem gm_u176 : Cond.fieldLink RX3 27 "Gimlet$Statements" "goalDemanding" "Z" ∈ gm_U := gm_U_in (List.mem_of_getElem? (l := lw_tbl) (i := 176) (by decide +kernel)) rfl
theorem gm_u177 : Cond.fieldLink RX3 30 "Gimlet$Statements" "goalPlaces" "I" ∈ gm_U := gm_U_in (List.mem_of_getElem? (l := lw_tbl) (i := 177) (by decide +kernel)) rfl
theorem gm_u178 : Cond.laysFinal RX3 "Gimlet$Statements" "demanding" "[Z" ∈ gm_U := gm_U_in (List.mem_of_getElem? (l := lw_tbl) (i := 178) (by decide +kernel)) rfl
theorem gm_u180 : Cond.laysFinal RX3 "Gimlet$Statements" "places" "[I" ∈ gm_U := gm_U_in (List.mem_of_getElem? (l := lw_tbl) (i := 180) (by decide +kernel)) rfl
theorem gm_u182 : Cond.lays RX3 "Gimlet$Statements" "count" "I" ∈ gm_U := gm_U_in (List.mem_of_getElem? (l := lw_tbl) (i := 182) (by decide +kernel)) rfl
theorem gm_u184 : Cond.lays RX3 "Gimlet$Statements" "goalSet" "Z" ∈ gm_U := gm_U_in (List.mem_of_getElem? (l := lw_tbl) (i := 184) (by decide +kernel)) rfl
theorem gm_u186 : Cond.lays RX3 "Gimlet$Statements" "goalDemanding" "Z" ∈ gm_U := gm_U_in (List.mem_of_getElem? (l := lw_tbl) (i := 186) (by decide +kernel)) rfl
theorem gm_u188 : Cond.lays RX3 "Gimlet$Statements" "goalPlaces" "I" ∈ gm_U := gm_U_in (List.mem_of_getElem? (l := lw_tbl) (i := 188) (by decide +kernel)) rfl
theorem gm_u191 : Cond.classLink RX6 37 RX2 ∈ gm_U := gm_U_in (List.mem_of_getElem? (l := lw_tbl) (i := 191) (by decide +kernel)) rfl
theorem gm_u192 : Cond.instantiable RX2 3 ∈ gm_U := gm_U_in (List.mem_of_getElem? (l := lw_tbl) (i := 192) (by decide +kernel)) rfl
theorem gm_u194 : Cond.instanceMethod yX2_init ∈ gm_U := gm_U_in (List.mem_of_getElem? (l := lw_tbl) (i := 194) (by decide +kernel)) rfl
theorem gm_u195 : Cond.code yX2_init cX2_init 1 none ∈ gm_U := gm_U_in (List.mem_of_getElem? (l := lw_tbl) (i := 195) (by decide +kernel)) rfl
theorem gm_u196 : Cond.methodLink RX2 5 objectInit ∈ gm_U := gm_U_in (List.mem_of_getElem? (l := lw_tbl) (i := 196) (by decide +kernel)) rfl
theorem gm_u197 : Cond.fieldLink RX2 11 "Gimlet$Search" "meets" "[I" ∈ gm_U := gm_U_in (List.mem_of_getElem? (l := lw_tbl) (i := 197) (by decide +kernel)) rfl
theorem gm_u198 : Cond.fieldLink RX2 15 "Gimlet$Search" "fewest" "[I" ∈ gm_U := gm_U_in (List.mem_of_getElem? (l := lw_tbl) (i := 198) (by decide +kernel)) rfl
theorem gm_u199 : Cond.fieldLink RX2 18 "Gimlet$Search" "wanted" "I" ∈ gm_U := gm_U_in (List.mem_of_getElem? (l := lw_tbl) (i := 199) (by decide +kernel)) rfl
theorem gm_u200 : Cond.laysFinal RX2 "Gimlet$Search" "meets" "[I" ∈ gm_U := gm_U_in (List.mem_of_getElem? (l := lw_tbl) (i := 200) (by decide +kernel)) rfl
theorem gm_u202 : Cond.laysFinal RX2 "Gimlet$Search" "fewest" "[I" ∈ gm_U := gm_U_in (List.mem_of_getElem? (l := lw_tbl) (i := 202) (by decide +kernel)) rfl
theorem gm_u204 : Cond.lays RX2 "Gimlet$Search" "wanted" "I" ∈ gm_U := gm_U_in (List.mem_of_getElem? (l := lw_tbl) (i := 204) (by decide +kernel)) rfl
theorem gm_u207 : Cond.fieldLink RX6 10 "Gimlet" "known" "LGimlet$Terms;" ∈ gm_U := gm_U_in (List.mem_of_getElem? (l := lw_tbl) (i := 207) (by decide +kernel)) rfl
theorem gm_u208 : Cond.fieldLink RX6 19 "Gimlet" "rewriter" "LGimlet$Rewriter;" ∈ gm_U := gm_U_in (List.mem_of_getElem? (l := lw_tbl) (i := 208) (by decide +kernel)) rfl
theorem gm_u209 : Cond.fieldLink RX6 26 "Gimlet" "cubes" "LGimlet$Cubes;" ∈ gm_U := gm_U_in (List.mem_of_getElem? (l := lw_tbl) (i := 209) (by decide +kernel)) rfl
theorem gm_u210 : Cond.fieldLink RX6 33 "Gimlet" "stated" "LGimlet$Statements;" ∈ gm_U := gm_U_in (List.mem_of_getElem? (l := lw_tbl) (i := 210) (by decide +kernel)) rfl
theorem gm_u211 : Cond.fieldLink RX6 40 "Gimlet" "search" "LGimlet$Search;" ∈ gm_U := gm_U_in (List.mem_of_getElem? (l := lw_tbl) (i := 211) (by decide +kernel)) rfl
theorem gm_u212 : Cond.laysFinal RX6 "Gimlet" "known" "LGimlet$Terms;" ∈ gm_U := gm_U_in (List.mem_of_getElem? (l := lw_tbl) (i := 212) (by decide +kernel)) rfl
theorem gm_u214 : Cond.laysFinal RX6 "Gimlet" "rewriter" "LGimlet$Rewriter;" ∈ gm_U := gm_U_in (List.mem_of_getElem? (l := lw_tbl) (i := 214) (by decide +kernel)) rfl
theorem gm_u216 : Cond.laysFinal RX6 "Gimlet" "cubes" "LGimlet$Cubes;" ∈ gm_U := gm_U_in (List.mem_of_getElem? (l := lw_tbl) (i := 216) (by decide +kernel)) rfl
theorem gm_u218 : Cond.laysFinal RX6 "Gimlet" "stated" "LGimlet$Statements;" ∈ gm_U := gm_U_in (List.mem_of_getElem? (l := lw_tbl) (i := 218) (by decide +kernel)) rfl
theorem gm_u220 : Cond.laysFinal RX6 "Gimlet" "search" "LGimlet$Search;" ∈ gm_U := gm_U_in (List.mem_of_getElem? (l := lw_tbl) (i := 220) (by decide +kernel)) rfl
theorem gm_u223 : Cond.methodLink RL 138 yX6_terms ∈ gm_U := gm_U_in (List.mem_of_getElem? (l := lw_tbl) (i := 223) (by decide +kernel)) rfl
theorem gm_u224 : Cond.instanceMethod yX6_terms ∈ gm_U := gm_U_in (List.mem_of_getElem? (l := lw_tbl) (i := 224) (by decide +kernel)) rfl
theorem gm_u225 : Cond.selects RX6 yX6_terms yX6_terms ∈ gm_U := gm_U_in (List.mem_of_getElem? (l := lw_tbl) (i := 225) (by decide +kernel)) rfl
theorem gm_u226 : Cond.code yX6_terms cX6_terms 1 (some .int) ∈ gm_U := gm_U_in (List.mem_of_getElem? (l := lw_tbl) (i := 226) (by decide +kernel)) rfl
theorem gm_u227 : Cond.methodLink RX6 62 yX4_howMany ∈ gm_U := gm_U_in (List.mem_of_getElem? (l := lw_tbl) (i := 227) (by decide +kernel)) rfl
theorem gm_u228 : Cond.instanceMethod yX4_howMany ∈ gm_U := gm_U_in (List.mem_of_getElem? (l := lw_tbl) (i := 228) (by decide +kernel)) rfl
theorem gm_u229 : Cond.selects RX4 yX4_howMany yX4_howMany ∈ gm_U := gm_U_in (List.mem_of_getElem? (l := lw_tbl) (i := 229) (by decide +kernel)) rfl
theorem gm_u230 : Cond.code yX4_howMany cX4_howMany 1 (some .int) ∈ gm_U := gm_U_in (List.mem_of_getElem? (l := lw_tbl) (i := 230) (by decide +kernel)) rfl
theorem gm_u231 : Cond.methodLink RL 203 yX6_isConsistent ∈ gm_U := gm_U_in (List.mem_of_getElem? (l := lw_tbl) (i := 231) (by decide +kernel)) rfl
theorem gm_u232 : Cond.instanceMethod yX6_isConsistent ∈ gm_U := gm_U_in (List.mem_of_getElem? (l := lw_tbl) (i := 232) (by decide +kernel)) rfl
theorem gm_u233 : Cond.selects RX6 yX6_isConsistent yX6_isConsistent ∈ gm_U := gm_U_in (List.mem_of_getElem? (l := lw_tbl) (i := 233) (by decide +kernel)) rfl
theorem gm_u234 : Cond.code yX6_isConsistent cX6_isConsistent 1 (some .boolean) ∈ gm_U := gm_U_in (List.mem_of_getElem? (l := lw_tbl) (i := 234) (by decide +kernel)) rfl
theorem gm_u235 : Cond.methodLink RX6 202 yX3_haveModel ∈ gm_U := gm_U_in (List.mem_of_getElem? (l := lw_tbl) (i := 235) (by decide +kernel)) rfl
theorem gm_u236 : Cond.instanceMethod yX3_haveModel ∈ gm_U := gm_U_in (List.mem_of_getElem? (l := lw_tbl) (i := 236) (by decide +kernel)) rfl
theorem gm_u237 : Cond.selects RX3 yX3_haveModel yX3_haveModel ∈ gm_U := gm_U_in (List.mem_of_getElem? (l := lw_tbl) (i := 237) (by decide +kernel)) rfl
theorem gm_u238 : Cond.code yX3_haveModel cX3_haveModel 1 (some .boolean) ∈ gm_U := gm_U_in (List.mem_of_getElem? (l := lw_tbl) (i := 238) (by decide +kernel)) rfl
theorem gm_u239 : Cond.methodLink RX3 46 yX3_allowed ∈ gm_U := gm_U_in (List.mem_of_getElem? (l := lw_tbl) (i := 239) (by decide +kernel)) rfl
theorem gm_u240 : Cond.instanceMethod yX3_allowed ∈ gm_U := gm_U_in (List.mem_of_getElem? (l := lw_tbl) (i := 240) (by decide +kernel)) rfl
theorem gm_u241 : Cond.selects RX3 yX3_allowed yX3_allowed ∈ gm_U := gm_U_in (List.mem_of_getElem? (l := lw_tbl) (i := 241) (by decide +kernel)) rfl
theorem gm_u242 : Cond.code yX3_allowed cX3_allowed 3 (some .int) ∈ gm_U := gm_U_in (List.mem_of_getElem? (l := lw_tbl) (i := 242) (by decide +kernel)) rfl
theorem gm_u243 : Cond.constant RX3 33 (65535) ∈ gm_U := gm_U_in (List.mem_of_getElem? (l := lw_tbl) (i := 243) (by decide +kernel)) rfl
theorem gm_u244 : Cond.methodLink RX3 34 yX3_demandsElement ∈ gm_U := gm_U_in (List.mem_of_getElem? (l := lw_tbl) (i := 244) (by decide +kernel)) rfl
theorem gm_u245 : Cond.instanceMethod yX3_demandsElement ∈ gm_U := gm_U_in (List.mem_of_getElem? (l := lw_tbl) (i := 245) (by decide +kernel)) rfl
theorem gm_u246 : Cond.selects RX3 yX3_demandsElement yX3_demandsElement ∈ gm_U := gm_U_in (List.mem_of_getElem? (l := lw_tbl) (i := 246) (by decide +kernel)) rfl
theorem gm_u247 : Cond.code yX3_demandsElement cX3_demandsElement 2 (some .boolean) ∈ gm_U := gm_U_in (List.mem_of_getElem? (l := lw_tbl) (i := 247) (by decide +kernel)) rfl
theorem gm_u248 : Cond.methodLink RX3 38 yX3_placesAt ∈ gm_U := gm_U_in (List.mem_of_getElem? (l := lw_tbl) (i := 248) (by decide +kernel)) rfl
theorem gm_u249 : Cond.instanceMethod yX3_placesAt ∈ gm_U := gm_U_in (List.mem_of_getElem? (l := lw_tbl) (i := 249) (by decide +kernel)) rfl
theorem gm_u250 : Cond.selects RX3 yX3_placesAt yX3_placesAt ∈ gm_U := gm_U_in (List.mem_of_getElem? (l := lw_tbl) (i := 250) (by decide +kernel)) rfl
theorem gm_u251 : Cond.code yX3_placesAt cX3_placesAt 2 (some .int) ∈ gm_U := gm_U_in (List.mem_of_getElem? (l := lw_tbl) (i := 251) (by decide +kernel)) rfl
theorem gm_u252 : Cond.methodLink RX3 50 yX3_firstUnmet ∈ gm_U := gm_U_in (List.mem_of_getElem? (l := lw_tbl) (i := 252) (by decide +kernel)) rfl
theorem gm_u254 : Cond.instanceMethod yX3_firstUnmet ∈ gm_U := gm_U_in (List.mem_of_getElem? (l := lw_tbl) (i := 254) (by decide +kernel)) rfl
theorem gm_u255 : Cond.code yX3_firstUnmet cX3_firstUnmet 3 (some .int) ∈ gm_U := gm_U_in (List.mem_of_getElem? (l := lw_tbl) (i := 255) (by decide +kernel)) rfl
theorem gm_u256 : Cond.classLink RL 147 RX7 ∈ gm_U := gm_U_in (List.mem_of_getElem? (l := lw_tbl) (i := 256) (by decide +kernel)) rfl
theorem gm_u257 : Cond.instantiable RX7 1 ∈ gm_U := gm_U_in (List.mem_of_getElem? (l := lw_tbl) (i := 257) (by decide +kernel)) rfl
theorem gm_u258 : Cond.methodLink RL 280 yX7_init ∈ gm_U := gm_U_in (List.mem_of_getElem? (l := lw_tbl) (i := 258) (by decide +kernel)) rfl
theorem gm_u259 : Cond.instanceMethod yX7_init ∈ gm_U := gm_U_in (List.mem_of_getElem? (l := lw_tbl) (i := 259) (by decide +kernel)) rfl
theorem gm_u260 : Cond.code yX7_init cX7_init 2 none ∈ gm_U := gm_U_in (List.mem_of_getElem? (l := lw_tbl) (i := 260) (by decide +kernel)) rfl
theorem gm_u261 : Cond.methodLink RX7 1 objectInit ∈ gm_U := gm_U_in (List.mem_of_getElem? (l := lw_tbl) (i := 261) (by decide +kernel)) rfl
theorem gm_u262 : Cond.constant RX7 7 (48271) ∈ gm_U := gm_U_in (List.mem_of_getElem? (l := lw_tbl) (i := 262) (by decide +kernel)) rfl
theorem gm_u263 : Cond.fieldLink RX7 8 "GimletLaw$Draw" "state" "I" ∈ gm_U := gm_U_in (List.mem_of_getElem? (l := lw_tbl) (i := 263) (by decide +kernel)) rfl
theorem gm_u264 : Cond.lays RX7 "GimletLaw$Draw" "state" "I" ∈ gm_U := gm_U_in (List.mem_of_getElem? (l := lw_tbl) (i := 264) (by decide +kernel)) rfl
theorem gm_u267 : Cond.methodLink RL 146 yX7_next ∈ gm_U := gm_U_in (List.mem_of_getElem? (l := lw_tbl) (i := 267) (by decide +kernel)) rfl
theorem gm_u268 : Cond.instanceMethod yX7_next ∈ gm_U := gm_U_in (List.mem_of_getElem? (l := lw_tbl) (i := 268) (by decide +kernel)) rfl
theorem gm_u269 : Cond.selects RX7 yX7_next yX7_next ∈ gm_U := gm_U_in (List.mem_of_getElem? (l := lw_tbl) (i := 269) (by decide +kernel)) rfl
theorem gm_u270 : Cond.code yX7_next cX7_next 2 (some .int) ∈ gm_U := gm_U_in (List.mem_of_getElem? (l := lw_tbl) (i := 270) (by decide +kernel)) rfl
theorem gm_u271 : Cond.constant RX7 14 (1103515245) ∈ gm_U := gm_U_in (List.mem_of_getElem? (l := lw_tbl) (i := 271) (by decide +kernel)) rfl
theorem gm_u272 : Cond.methodLink RX7 15 yJ9_max_7cf53 ∈ gm_U := gm_U_in (List.mem_of_getElem? (l := lw_tbl) (i := 272) (by decide +kernel)) rfl
theorem gm_u273 : Cond.static yJ9_max_7cf53 ∈ gm_U := gm_U_in (List.mem_of_getElem? (l := lw_tbl) (i := 273) (by decide +kernel)) rfl
theorem gm_u274 : Cond.code yJ9_max_7cf53 cJ9_max_7cf53 2 (some .int) ∈ gm_U := gm_U_in (List.mem_of_getElem? (l := lw_tbl) (i := 274) (by decide +kernel)) rfl
theorem gm_u275 : Cond.methodLink RL 276 yL_cell ∈ gm_U := gm_U_in (List.mem_of_getElem? (l := lw_tbl) (i := 275) (by decide +kernel)) rfl
theorem gm_u276 : Cond.static yL_cell ∈ gm_U := gm_U_in (List.mem_of_getElem? (l := lw_tbl) (i := 276) (by decide +kernel)) rfl
theorem gm_u277 : Cond.code yL_cell cL_cell 2 (some .int) ∈ gm_U := gm_U_in (List.mem_of_getElem? (l := lw_tbl) (i := 277) (by decide +kernel)) rfl
theorem gm_u278 : Cond.constant RL 7 (65535) ∈ gm_U := gm_U_in (List.mem_of_getElem? (l := lw_tbl) (i := 278) (by decide +kernel)) rfl
theorem gm_u279 : Cond.methodLink RL 160 yL_letter ∈ gm_U := gm_U_in (List.mem_of_getElem? (l := lw_tbl) (i := 279) (by decide +kernel)) rfl
theorem gm_u280 : Cond.static yL_letter ∈ gm_U := gm_U_in (List.mem_of_getElem? (l := lw_tbl) (i := 280) (by decide +kernel)) rfl
theorem gm_u281 : Cond.codeWith yL_letter cL_letter 3 (some .int) [(0, 5, 6, 14), (0, 5, 9, 16)] ∈ gm_U := gm_U_in (List.mem_of_getElem? (l := lw_tbl) (i := 281) (by decide +kernel)) rfl
theorem gm_u282 : Cond.classLink RL 14 "java/lang/IllegalArgumentException" ∈ gm_U := gm_U_in (List.mem_of_getElem? (l := lw_tbl) (i := 282) (by decide +kernel)) rfl
theorem gm_u283 : Cond.classLink RL 16 "java/lang/IllegalStateException" ∈ gm_U := gm_U_in (List.mem_of_getElem? (l := lw_tbl) (i := 283) (by decide +kernel)) rfl
theorem gm_u284 : Cond.methodLink RL 8 yX6_letter ∈ gm_U := gm_U_in (List.mem_of_getElem? (l := lw_tbl) (i := 284) (by decide +kernel)) rfl
theorem gm_u285 : Cond.instanceMethod yX6_letter ∈ gm_U := gm_U_in (List.mem_of_getElem? (l := lw_tbl) (i := 285) (by decide +kernel)) rfl
theorem gm_u286 : Cond.selects RX6 yX6_letter yX6_letter ∈ gm_U := gm_U_in (List.mem_of_getElem? (l := lw_tbl) (i := 286) (by decide +kernel)) rfl
theorem gm_u287 : Cond.code yX6_letter cX6_letter 2 (some .int) ∈ gm_U := gm_U_in (List.mem_of_getElem? (l := lw_tbl) (i := 287) (by decide +kernel)) rfl
theorem gm_u288 : Cond.methodLink RX6 44 yX6_checkLetter ∈ gm_U := gm_U_in (List.mem_of_getElem? (l := lw_tbl) (i := 288) (by decide +kernel)) rfl
theorem gm_u290 : Cond.instanceMethod yX6_checkLetter ∈ gm_U := gm_U_in (List.mem_of_getElem? (l := lw_tbl) (i := 290) (by decide +kernel)) rfl
theorem gm_u291 : Cond.code yX6_checkLetter cX6_checkLetter 2 none ∈ gm_U := gm_U_in (List.mem_of_getElem? (l := lw_tbl) (i := 291) (by decide +kernel)) rfl
theorem gm_u292 : Cond.classLink RX6 94 "java/lang/IllegalArgumentException" ∈ gm_U := gm_U_in (List.mem_of_getElem? (l := lw_tbl) (i := 292) (by decide +kernel)) rfl
theorem gm_u361 : Cond.arrayClass .byte ∈ gm_U := gm_U_in (List.mem_of_getElem? (l := lw_tbl) (i := 361) (by decide +kernel)) rfl
theorem gm_u362 : Cond.methodLink RX6 48 yX4_make ∈ gm_U := gm_U_in (List.mem_of_getElem? (l := lw_tbl) (i := 362) (by decide +kernel)) rfl
theorem gm_u363 : Cond.instanceMethod yX4_make ∈ gm_U := gm_U_in (List.mem_of_getElem? (l := lw_tbl) (i := 363) (by decide +kernel)) rfl
theorem gm_u364 : Cond.selects RX4 yX4_make yX4_make ∈ gm_U := gm_U_in (List.mem_of_getElem? (l := lw_tbl) (i := 364) (by decide +kernel)) rfl
theorem gm_u365 : Cond.code yX4_make cX4_make 7 (some .int) ∈ gm_U := gm_U_in (List.mem_of_getElem? (l := lw_tbl) (i := 365) (by decide +kernel)) rfl
theorem gm_u366 : Cond.methodLink RX4 50 yX4_find ∈ gm_U := gm_U_in (List.mem_of_getElem? (l := lw_tbl) (i := 366) (by decide +kernel)) rfl
theorem gm_u368 : Cond.instanceMethod yX4_find ∈ gm_U := gm_U_in (List.mem_of_getElem? (l := lw_tbl) (i := 368) (by decide +kernel)) rfl
theorem gm_u369 : Cond.code yX4_find cX4_find 5 (some .int) ∈ gm_U := gm_U_in (List.mem_of_getElem? (l := lw_tbl) (i := 369) (by decide +kernel)) rfl
theorem gm_u370 : Cond.methodLink RX4 40 yX4_sizeOf ∈ gm_U := gm_U_in (List.mem_of_getElem? (l := lw_tbl) (i := 370) (by decide +kernel)) rfl
theorem gm_u371 : Cond.instanceMethod yX4_sizeOf ∈ gm_U := gm_U_in (List.mem_of_getElem? (l := lw_tbl) (i := 371) (by decide +kernel)) rfl
theorem gm_u372 : Cond.selects RX4 yX4_sizeOf yX4_sizeOf ∈ gm_U := gm_U_in (List.mem_of_getElem? (l := lw_tbl) (i := 372) (by decide +kernel)) rfl
theorem gm_u373 : Cond.code yX4_sizeOf cX4_sizeOf 2 (some .int) ∈ gm_U := gm_U_in (List.mem_of_getElem? (l := lw_tbl) (i := 373) (by decide +kernel)) rfl
theorem gm_u374 : Cond.methodLink RX4 32 yX4_isKnown ∈ gm_U := gm_U_in (List.mem_of_getElem? (l := lw_tbl) (i := 374) (by decide +kernel)) rfl
theorem gm_u375 : Cond.instanceMethod yX4_isKnown ∈ gm_U := gm_U_in (List.mem_of_getElem? (l := lw_tbl) (i := 375) (by decide +kernel)) rfl
theorem gm_u376 : Cond.selects RX4 yX4_isKnown yX4_isKnown ∈ gm_U := gm_U_in (List.mem_of_getElem? (l := lw_tbl) (i := 376) (by decide +kernel)) rfl
theorem gm_u377 : Cond.code yX4_isKnown cX4_isKnown 2 (some .boolean) ∈ gm_U := gm_U_in (List.mem_of_getElem? (l := lw_tbl) (i := 377) (by decide +kernel)) rfl
theorem gm_u378 : Cond.methodLink RX4 54 yX4_coverOf ∈ gm_U := gm_U_in (List.mem_of_getElem? (l := lw_tbl) (i := 378) (by decide +kernel)) rfl
theorem gm_u379 : Cond.instanceMethod yX4_coverOf ∈ gm_U := gm_U_in (List.mem_of_getElem? (l := lw_tbl) (i := 379) (by decide +kernel)) rfl
theorem gm_u380 : Cond.selects RX4 yX4_coverOf yX4_coverOf ∈ gm_U := gm_U_in (List.mem_of_getElem? (l := lw_tbl) (i := 380) (by decide +kernel)) rfl
theorem gm_u381 : Cond.code yX4_coverOf cX4_coverOf 2 (some .int) ∈ gm_U := gm_U_in (List.mem_of_getElem? (l := lw_tbl) (i := 381) (by decide +kernel)) rfl
theorem gm_u382 : Cond.methodLink RX4 57 yX4_coverFrom ∈ gm_U := gm_U_in (List.mem_of_getElem? (l := lw_tbl) (i := 382) (by decide +kernel)) rfl
theorem gm_u383 : Cond.static yX4_coverFrom ∈ gm_U := gm_U_in (List.mem_of_getElem? (l := lw_tbl) (i := 383) (by decide +kernel)) rfl
theorem gm_u384 : Cond.code yX4_coverFrom cX4_coverFrom 3 (some .int) ∈ gm_U := gm_U_in (List.mem_of_getElem? (l := lw_tbl) (i := 384) (by decide +kernel)) rfl
theorem gm_u385 : Cond.constant RX4 60 (43690) ∈ gm_U := gm_U_in (List.mem_of_getElem? (l := lw_tbl) (i := 385) (by decide +kernel)) rfl
theorem gm_u386 : Cond.constant RX4 61 (52428) ∈ gm_U := gm_U_in (List.mem_of_getElem? (l := lw_tbl) (i := 386) (by decide +kernel)) rfl
theorem gm_u387 : Cond.constant RX4 62 (61680) ∈ gm_U := gm_U_in (List.mem_of_getElem? (l := lw_tbl) (i := 387) (by decide +kernel)) rfl
theorem gm_u388 : Cond.constant RX4 63 (65280) ∈ gm_U := gm_U_in (List.mem_of_getElem? (l := lw_tbl) (i := 388) (by decide +kernel)) rfl
theorem gm_u389 : Cond.constant RX4 64 (65535) ∈ gm_U := gm_U_in (List.mem_of_getElem? (l := lw_tbl) (i := 389) (by decide +kernel)) rfl
theorem gm_u390 : Cond.methodLink RX6 52 yX6_madeOrThrow ∈ gm_U := gm_U_in (List.mem_of_getElem? (l := lw_tbl) (i := 390) (by decide +kernel)) rfl
theorem gm_u392 : Cond.instanceMethod yX6_madeOrThrow ∈ gm_U := gm_U_in (List.mem_of_getElem? (l := lw_tbl) (i := 392) (by decide +kernel)) rfl
theorem gm_u393 : Cond.code yX6_madeOrThrow cX6_madeOrThrow 2 (some .int) ∈ gm_U := gm_U_in (List.mem_of_getElem? (l := lw_tbl) (i := 393) (by decide +kernel)) rfl
theorem gm_u394 : Cond.classLink RX6 80 "java/lang/IllegalStateException" ∈ gm_U := gm_U_in (List.mem_of_getElem? (l := lw_tbl) (i := 394) (by decide +kernel)) rfl
theorem gm_u410 : Cond.methodLink RL 168 yL_complement ∈ gm_U := gm_U_in (List.mem_of_getElem? (l := lw_tbl) (i := 410) (by decide +kernel)) rfl
theorem gm_u411 : Cond.static yL_complement ∈ gm_U := gm_U_in (List.mem_of_getElem? (l := lw_tbl) (i := 411) (by decide +kernel)) rfl
theorem gm_u412 : Cond.codeWith yL_complement cL_complement 3 (some .int) [(0, 5, 6, 28), (0, 5, 9, 16)] ∈ gm_U := gm_U_in (List.mem_of_getElem? (l := lw_tbl) (i := 412) (by decide +kernel)) rfl
theorem gm_u413 : Cond.classLink RL 28 "java/lang/IndexOutOfBoundsException" ∈ gm_U := gm_U_in (List.mem_of_getElem? (l := lw_tbl) (i := 413) (by decide +kernel)) rfl
theorem gm_u414 : Cond.methodLink RL 25 yX6_complement ∈ gm_U := gm_U_in (List.mem_of_getElem? (l := lw_tbl) (i := 414) (by decide +kernel)) rfl
theorem gm_u415 : Cond.instanceMethod yX6_complement ∈ gm_U := gm_U_in (List.mem_of_getElem? (l := lw_tbl) (i := 415) (by decide +kernel)) rfl
theorem gm_u416 : Cond.selects RX6 yX6_complement yX6_complement ∈ gm_U := gm_U_in (List.mem_of_getElem? (l := lw_tbl) (i := 416) (by decide +kernel)) rfl
theorem gm_u417 : Cond.code yX6_complement cX6_complement 2 (some .int) ∈ gm_U := gm_U_in (List.mem_of_getElem? (l := lw_tbl) (i := 417) (by decide +kernel)) rfl
theorem gm_u418 : Cond.methodLink RX6 56 yX6_checkTerm ∈ gm_U := gm_U_in (List.mem_of_getElem? (l := lw_tbl) (i := 418) (by decide +kernel)) rfl
theorem gm_u420 : Cond.instanceMethod yX6_checkTerm ∈ gm_U := gm_U_in (List.mem_of_getElem? (l := lw_tbl) (i := 420) (by decide +kernel)) rfl
theorem gm_u421 : Cond.code yX6_checkTerm cX6_checkTerm 2 none ∈ gm_U := gm_U_in (List.mem_of_getElem? (l := lw_tbl) (i := 421) (by decide +kernel)) rfl
theorem gm_u422 : Cond.methodLink RX6 85 yX4_isKnown ∈ gm_U := gm_U_in (List.mem_of_getElem? (l := lw_tbl) (i := 422) (by decide +kernel)) rfl
theorem gm_u423 : Cond.classLink RX6 89 "java/lang/IndexOutOfBoundsException" ∈ gm_U := gm_U_in (List.mem_of_getElem? (l := lw_tbl) (i := 423) (by decide +kernel)) rfl
theorem gm_u439 : Cond.methodLink RL 221 yL_size ∈ gm_U := gm_U_in (List.mem_of_getElem? (l := lw_tbl) (i := 439) (by decide +kernel)) rfl
theorem gm_u440 : Cond.static yL_size ∈ gm_U := gm_U_in (List.mem_of_getElem? (l := lw_tbl) (i := 440) (by decide +kernel)) rfl
theorem gm_u441 : Cond.codeWith yL_size cL_size 3 (some .int) [(0, 5, 6, 28)] ∈ gm_U := gm_U_in (List.mem_of_getElem? (l := lw_tbl) (i := 441) (by decide +kernel)) rfl
theorem gm_u442 : Cond.methodLink RL 43 yX6_size ∈ gm_U := gm_U_in (List.mem_of_getElem? (l := lw_tbl) (i := 442) (by decide +kernel)) rfl
theorem gm_u443 : Cond.instanceMethod yX6_size ∈ gm_U := gm_U_in (List.mem_of_getElem? (l := lw_tbl) (i := 443) (by decide +kernel)) rfl
theorem gm_u444 : Cond.selects RX6 yX6_size yX6_size ∈ gm_U := gm_U_in (List.mem_of_getElem? (l := lw_tbl) (i := 444) (by decide +kernel)) rfl
theorem gm_u445 : Cond.code yX6_size cX6_size 2 (some .int) ∈ gm_U := gm_U_in (List.mem_of_getElem? (l := lw_tbl) (i := 445) (by decide +kernel)) rfl
theorem gm_u446 : Cond.methodLink RX6 66 yX4_sizeOf ∈ gm_U := gm_U_in (List.mem_of_getElem? (l := lw_tbl) (i := 446) (by decide +kernel)) rfl
theorem gm_u447 : Cond.methodLink RL 225 yL_symbol ∈ gm_U := gm_U_in (List.mem_of_getElem? (l := lw_tbl) (i := 447) (by decide +kernel)) rfl
theorem gm_u448 : Cond.static yL_symbol ∈ gm_U := gm_U_in (List.mem_of_getElem? (l := lw_tbl) (i := 448) (by decide +kernel)) rfl
theorem gm_u449 : Cond.codeWith yL_symbol cL_symbol 4 (some .int) [(0, 6, 7, 28), (0, 6, 10, 50)] ∈ gm_U := gm_U_in (List.mem_of_getElem? (l := lw_tbl) (i := 449) (by decide +kernel)) rfl
theorem gm_u450 : Cond.classLink RL 50 "java/util/NoSuchElementException" ∈ gm_U := gm_U_in (List.mem_of_getElem? (l := lw_tbl) (i := 450) (by decide +kernel)) rfl
theorem gm_u451 : Cond.methodLink RL 46 yX6_symbol ∈ gm_U := gm_U_in (List.mem_of_getElem? (l := lw_tbl) (i := 451) (by decide +kernel)) rfl
theorem gm_u452 : Cond.instanceMethod yX6_symbol ∈ gm_U := gm_U_in (List.mem_of_getElem? (l := lw_tbl) (i := 452) (by decide +kernel)) rfl
theorem gm_u453 : Cond.selects RX6 yX6_symbol yX6_symbol ∈ gm_U := gm_U_in (List.mem_of_getElem? (l := lw_tbl) (i := 453) (by decide +kernel)) rfl
theorem gm_u454 : Cond.code yX6_symbol cX6_symbol 3 (some .char) ∈ gm_U := gm_U_in (List.mem_of_getElem? (l := lw_tbl) (i := 454) (by decide +kernel)) rfl
theorem gm_u455 : Cond.classLink RX6 69 "java/util/NoSuchElementException" ∈ gm_U := gm_U_in (List.mem_of_getElem? (l := lw_tbl) (i := 455) (by decide +kernel)) rfl
theorem gm_u471 : Cond.methodLink RX6 76 yX4_symbolOf ∈ gm_U := gm_U_in (List.mem_of_getElem? (l := lw_tbl) (i := 471) (by decide +kernel)) rfl
theorem gm_u472 : Cond.instanceMethod yX4_symbolOf ∈ gm_U := gm_U_in (List.mem_of_getElem? (l := lw_tbl) (i := 472) (by decide +kernel)) rfl
theorem gm_u473 : Cond.selects RX4 yX4_symbolOf yX4_symbolOf ∈ gm_U := gm_U_in (List.mem_of_getElem? (l := lw_tbl) (i := 473) (by decide +kernel)) rfl
theorem gm_u474 : Cond.code yX4_symbolOf cX4_symbolOf 9 (some .char) ∈ gm_U := gm_U_in (List.mem_of_getElem? (l := lw_tbl) (i := 474) (by decide +kernel)) rfl
theorem gm_u475 : Cond.methodLink RX4 36 yX4_leftOf ∈ gm_U := gm_U_in (List.mem_of_getElem? (l := lw_tbl) (i := 475) (by decide +kernel)) rfl
theorem gm_u477 : Cond.instanceMethod yX4_leftOf ∈ gm_U := gm_U_in (List.mem_of_getElem? (l := lw_tbl) (i := 477) (by decide +kernel)) rfl
theorem gm_u478 : Cond.code yX4_leftOf cX4_leftOf 2 (some .int) ∈ gm_U := gm_U_in (List.mem_of_getElem? (l := lw_tbl) (i := 478) (by decide +kernel)) rfl
theorem gm_u479 : Cond.methodLink RX4 43 yX4_rightOf ∈ gm_U := gm_U_in (List.mem_of_getElem? (l := lw_tbl) (i := 479) (by decide +kernel)) rfl
theorem gm_u481 : Cond.instanceMethod yX4_rightOf ∈ gm_U := gm_U_in (List.mem_of_getElem? (l := lw_tbl) (i := 481) (by decide +kernel)) rfl
theorem gm_u482 : Cond.code yX4_rightOf cX4_rightOf 2 (some .int) ∈ gm_U := gm_U_in (List.mem_of_getElem? (l := lw_tbl) (i := 482) (by decide +kernel)) rfl
theorem gm_u483 : Cond.methodLink RX4 46 yX4_headOf ∈ gm_U := gm_U_in (List.mem_of_getElem? (l := lw_tbl) (i := 483) (by decide +kernel)) rfl
theorem gm_u485 : Cond.instanceMethod yX4_headOf ∈ gm_U := gm_U_in (List.mem_of_getElem? (l := lw_tbl) (i := 485) (by decide +kernel)) rfl
theorem gm_u486 : Cond.code yX4_headOf cX4_headOf 2 (some .char) ∈ gm_U := gm_U_in (List.mem_of_getElem? (l := lw_tbl) (i := 486) (by decide +kernel)) rfl
theorem gm_u487 : Cond.methodLink RL 223 yL_regions ∈ gm_U := gm_U_in (List.mem_of_getElem? (l := lw_tbl) (i := 487) (by decide +kernel)) rfl
theorem gm_u488 : Cond.static yL_regions ∈ gm_U := gm_U_in (List.mem_of_getElem? (l := lw_tbl) (i := 488) (by decide +kernel)) rfl
theorem gm_u489 : Cond.codeWith yL_regions cL_regions 3 (some .int) [(0, 5, 6, 28)] ∈ gm_U := gm_U_in (List.mem_of_getElem? (l := lw_tbl) (i := 489) (by decide +kernel)) rfl
theorem gm_u490 : Cond.methodLink RL 52 yX6_regions ∈ gm_U := gm_U_in (List.mem_of_getElem? (l := lw_tbl) (i := 490) (by decide +kernel)) rfl
theorem gm_u491 : Cond.instanceMethod yX6_regions ∈ gm_U := gm_U_in (List.mem_of_getElem? (l := lw_tbl) (i := 491) (by decide +kernel)) rfl
theorem gm_u492 : Cond.selects RX6 yX6_regions yX6_regions ∈ gm_U := gm_U_in (List.mem_of_getElem? (l := lw_tbl) (i := 492) (by decide +kernel)) rfl
theorem gm_u493 : Cond.code yX6_regions cX6_regions 2 (some .int) ∈ gm_U := gm_U_in (List.mem_of_getElem? (l := lw_tbl) (i := 493) (by decide +kernel)) rfl
theorem gm_u494 : Cond.methodLink RX6 101 yX4_coverOf ∈ gm_U := gm_U_in (List.mem_of_getElem? (l := lw_tbl) (i := 494) (by decide +kernel)) rfl
theorem gm_u495 : Cond.methodLink RX6 104 yJ6_bitCount_0f7a4 ∈ gm_U := gm_U_in (List.mem_of_getElem? (l := lw_tbl) (i := 495) (by decide +kernel)) rfl
theorem gm_u496 : Cond.static yJ6_bitCount_0f7a4 ∈ gm_U := gm_U_in (List.mem_of_getElem? (l := lw_tbl) (i := 496) (by decide +kernel)) rfl
theorem gm_u497 : Cond.code yJ6_bitCount_0f7a4 cJ6_bitCount_0f7a4 1 (some .int) ∈ gm_U := gm_U_in (List.mem_of_getElem? (l := lw_tbl) (i := 497) (by decide +kernel)) rfl
theorem gm_u498 : Cond.constant RJ6 265 (1431655765) ∈ gm_U := gm_U_in (List.mem_of_getElem? (l := lw_tbl) (i := 498) (by decide +kernel)) rfl
theorem gm_u499 : Cond.constant RJ6 266 (858993459) ∈ gm_U := gm_U_in (List.mem_of_getElem? (l := lw_tbl) (i := 499) (by decide +kernel)) rfl
theorem gm_u500 : Cond.constant RJ6 267 (252645135) ∈ gm_U := gm_U_in (List.mem_of_getElem? (l := lw_tbl) (i := 500) (by decide +kernel)) rfl
theorem gm_u501 : Cond.methodLink RL 235 yL_rule ∈ gm_U := gm_U_in (List.mem_of_getElem? (l := lw_tbl) (i := 501) (by decide +kernel)) rfl
theorem gm_u502 : Cond.static yL_rule ∈ gm_U := gm_U_in (List.mem_of_getElem? (l := lw_tbl) (i := 502) (by decide +kernel)) rfl
theorem gm_u503 : Cond.codeWith yL_rule cL_rule 3 (some .int) [(0, 5, 6, 28), (0, 5, 9, 50)] ∈ gm_U := gm_U_in (List.mem_of_getElem? (l := lw_tbl) (i := 503) (by decide +kernel)) rfl
theorem gm_u504 : Cond.methodLink RL 65 yX6_rule ∈ gm_U := gm_U_in (List.mem_of_getElem? (l := lw_tbl) (i := 504) (by decide +kernel)) rfl
theorem gm_u505 : Cond.instanceMethod yX6_rule ∈ gm_U := gm_U_in (List.mem_of_getElem? (l := lw_tbl) (i := 505) (by decide +kernel)) rfl
theorem gm_u506 : Cond.selects RX6 yX6_rule yX6_rule ∈ gm_U := gm_U_in (List.mem_of_getElem? (l := lw_tbl) (i := 506) (by decide +kernel)) rfl
theorem gm_u507 : Cond.code yX6_rule cX6_rule 2 (some .char) ∈ gm_U := gm_U_in (List.mem_of_getElem? (l := lw_tbl) (i := 507) (by decide +kernel)) rfl
theorem gm_u508 : Cond.methodLink RX6 119 yX1_load ∈ gm_U := gm_U_in (List.mem_of_getElem? (l := lw_tbl) (i := 508) (by decide +kernel)) rfl
theorem gm_u509 : Cond.instanceMethod yX1_load ∈ gm_U := gm_U_in (List.mem_of_getElem? (l := lw_tbl) (i := 509) (by decide +kernel)) rfl
theorem gm_u510 : Cond.selects RX1 yX1_load yX1_load ∈ gm_U := gm_U_in (List.mem_of_getElem? (l := lw_tbl) (i := 510) (by decide +kernel)) rfl
theorem gm_u511 : Cond.code yX1_load cX1_load 5 none ∈ gm_U := gm_U_in (List.mem_of_getElem? (l := lw_tbl) (i := 511) (by decide +kernel)) rfl
theorem gm_u512 : Cond.methodLink RX1 29 yX5_clear ∈ gm_U := gm_U_in (List.mem_of_getElem? (l := lw_tbl) (i := 512) (by decide +kernel)) rfl
theorem gm_u513 : Cond.instanceMethod yX5_clear ∈ gm_U := gm_U_in (List.mem_of_getElem? (l := lw_tbl) (i := 513) (by decide +kernel)) rfl
theorem gm_u514 : Cond.selects RX5 yX5_clear yX5_clear ∈ gm_U := gm_U_in (List.mem_of_getElem? (l := lw_tbl) (i := 514) (by decide +kernel)) rfl
theorem gm_u515 : Cond.code yX5_clear cX5_clear 1 none ∈ gm_U := gm_U_in (List.mem_of_getElem? (l := lw_tbl) (i := 515) (by decide +kernel)) rfl
theorem gm_u516 : Cond.methodLink RX1 32 yX4_sizeOf ∈ gm_U := gm_U_in (List.mem_of_getElem? (l := lw_tbl) (i := 516) (by decide +kernel)) rfl
theorem gm_u517 : Cond.methodLink RX1 38 yX4_symbolOf ∈ gm_U := gm_U_in (List.mem_of_getElem? (l := lw_tbl) (i := 517) (by decide +kernel)) rfl
theorem gm_u518 : Cond.methodLink RX1 42 yX5_put ∈ gm_U := gm_U_in (List.mem_of_getElem? (l := lw_tbl) (i := 518) (by decide +kernel)) rfl
theorem gm_u519 : Cond.instanceMethod yX5_put ∈ gm_U := gm_U_in (List.mem_of_getElem? (l := lw_tbl) (i := 519) (by decide +kernel)) rfl
theorem gm_u520 : Cond.selects RX5 yX5_put yX5_put ∈ gm_U := gm_U_in (List.mem_of_getElem? (l := lw_tbl) (i := 520) (by decide +kernel)) rfl
theorem gm_u521 : Cond.code yX5_put cX5_put 2 none ∈ gm_U := gm_U_in (List.mem_of_getElem? (l := lw_tbl) (i := 521) (by decide +kernel)) rfl
theorem gm_u522 : Cond.methodLink RX6 123 yX6_ruleOrThrow ∈ gm_U := gm_U_in (List.mem_of_getElem? (l := lw_tbl) (i := 522) (by decide +kernel)) rfl
theorem gm_u524 : Cond.instanceMethod yX6_ruleOrThrow ∈ gm_U := gm_U_in (List.mem_of_getElem? (l := lw_tbl) (i := 524) (by decide +kernel)) rfl
theorem gm_u525 : Cond.code yX6_ruleOrThrow cX6_ruleOrThrow 1 (some .char) ∈ gm_U := gm_U_in (List.mem_of_getElem? (l := lw_tbl) (i := 525) (by decide +kernel)) rfl
theorem gm_u526 : Cond.methodLink RX6 139 yX1_seek ∈ gm_U := gm_U_in (List.mem_of_getElem? (l := lw_tbl) (i := 526) (by decide +kernel)) rfl
theorem gm_u527 : Cond.instanceMethod yX1_seek ∈ gm_U := gm_U_in (List.mem_of_getElem? (l := lw_tbl) (i := 527) (by decide +kernel)) rfl
theorem gm_u528 : Cond.selects RX1 yX1_seek yX1_seek ∈ gm_U := gm_U_in (List.mem_of_getElem? (l := lw_tbl) (i := 528) (by decide +kernel)) rfl
theorem gm_u529 : Cond.code yX1_seek cX1_seek 2 (some .boolean) ∈ gm_U := gm_U_in (List.mem_of_getElem? (l := lw_tbl) (i := 529) (by decide +kernel)) rfl
theorem gm_u530 : Cond.methodLink RX1 46 yX5_measure ∈ gm_U := gm_U_in (List.mem_of_getElem? (l := lw_tbl) (i := 530) (by decide +kernel)) rfl
theorem gm_u531 : Cond.instanceMethod yX5_measure ∈ gm_U := gm_U_in (List.mem_of_getElem? (l := lw_tbl) (i := 531) (by decide +kernel)) rfl
theorem gm_u532 : Cond.selects RX5 yX5_measure yX5_measure ∈ gm_U := gm_U_in (List.mem_of_getElem? (l := lw_tbl) (i := 532) (by decide +kernel)) rfl
theorem gm_u533 : Cond.code yX5_measure cX5_measure 5 none ∈ gm_U := gm_U_in (List.mem_of_getElem? (l := lw_tbl) (i := 533) (by decide +kernel)) rfl
theorem gm_u534 : Cond.methodLink RX5 34 yJ9_min_7cf53 ∈ gm_U := gm_U_in (List.mem_of_getElem? (l := lw_tbl) (i := 534) (by decide +kernel)) rfl
theorem gm_u535 : Cond.static yJ9_min_7cf53 ∈ gm_U := gm_U_in (List.mem_of_getElem? (l := lw_tbl) (i := 535) (by decide +kernel)) rfl
theorem gm_u536 : Cond.code yJ9_min_7cf53 cJ9_min_7cf53 2 (some .int) ∈ gm_U := gm_U_in (List.mem_of_getElem? (l := lw_tbl) (i := 536) (by decide +kernel)) rfl
theorem gm_u537 : Cond.methodLink RX5 40 yX5_partsOf ∈ gm_U := gm_U_in (List.mem_of_getElem? (l := lw_tbl) (i := 537) (by decide +kernel)) rfl
theorem gm_u538 : Cond.static yX5_partsOf ∈ gm_U := gm_U_in (List.mem_of_getElem? (l := lw_tbl) (i := 538) (by decide +kernel)) rfl
theorem gm_u539 : Cond.code yX5_partsOf cX5_partsOf 1 (some .int) ∈ gm_U := gm_U_in (List.mem_of_getElem? (l := lw_tbl) (i := 539) (by decide +kernel)) rfl
theorem gm_u540 : Cond.methodLink RX5 44 yX5_endOf ∈ gm_U := gm_U_in (List.mem_of_getElem? (l := lw_tbl) (i := 540) (by decide +kernel)) rfl
theorem gm_u541 : Cond.instanceMethod yX5_endOf ∈ gm_U := gm_U_in (List.mem_of_getElem? (l := lw_tbl) (i := 541) (by decide +kernel)) rfl
theorem gm_u542 : Cond.selects RX5 yX5_endOf yX5_endOf ∈ gm_U := gm_U_in (List.mem_of_getElem? (l := lw_tbl) (i := 542) (by decide +kernel)) rfl
theorem gm_u543 : Cond.code yX5_endOf cX5_endOf 2 (some .int) ∈ gm_U := gm_U_in (List.mem_of_getElem? (l := lw_tbl) (i := 543) (by decide +kernel)) rfl
theorem gm_u544 : Cond.methodLink RX1 49 yX5_length ∈ gm_U := gm_U_in (List.mem_of_getElem? (l := lw_tbl) (i := 544) (by decide +kernel)) rfl
theorem gm_u545 : Cond.instanceMethod yX5_length ∈ gm_U := gm_U_in (List.mem_of_getElem? (l := lw_tbl) (i := 545) (by decide +kernel)) rfl
theorem gm_u546 : Cond.selects RX5 yX5_length yX5_length ∈ gm_U := gm_U_in (List.mem_of_getElem? (l := lw_tbl) (i := 546) (by decide +kernel)) rfl
theorem gm_u547 : Cond.code yX5_length cX5_length 1 (some .int) ∈ gm_U := gm_U_in (List.mem_of_getElem? (l := lw_tbl) (i := 547) (by decide +kernel)) rfl
theorem gm_u548 : Cond.methodLink RX1 53 yX1_ruleAt ∈ gm_U := gm_U_in (List.mem_of_getElem? (l := lw_tbl) (i := 548) (by decide +kernel)) rfl
theorem gm_u550 : Cond.instanceMethod yX1_ruleAt ∈ gm_U := gm_U_in (List.mem_of_getElem? (l := lw_tbl) (i := 550) (by decide +kernel)) rfl
theorem gm_u551 : Cond.code yX1_ruleAt cX1_ruleAt 2 (some .char) ∈ gm_U := gm_U_in (List.mem_of_getElem? (l := lw_tbl) (i := 551) (by decide +kernel)) rfl
theorem gm_u552 : Cond.methodLink RX1 57 yX5_at ∈ gm_U := gm_U_in (List.mem_of_getElem? (l := lw_tbl) (i := 552) (by decide +kernel)) rfl
theorem gm_u553 : Cond.instanceMethod yX5_at ∈ gm_U := gm_U_in (List.mem_of_getElem? (l := lw_tbl) (i := 553) (by decide +kernel)) rfl
theorem gm_u554 : Cond.selects RX5 yX5_at yX5_at ∈ gm_U := gm_U_in (List.mem_of_getElem? (l := lw_tbl) (i := 554) (by decide +kernel)) rfl
theorem gm_u555 : Cond.code yX5_at cX5_at 2 (some .char) ∈ gm_U := gm_U_in (List.mem_of_getElem? (l := lw_tbl) (i := 555) (by decide +kernel)) rfl
theorem gm_u556 : Cond.methodLink RX1 60 yX1_ruleOfComplement ∈ gm_U := gm_U_in (List.mem_of_getElem? (l := lw_tbl) (i := 556) (by decide +kernel)) rfl
theorem gm_u557 : Cond.static yX1_ruleOfComplement ∈ gm_U := gm_U_in (List.mem_of_getElem? (l := lw_tbl) (i := 557) (by decide +kernel)) rfl
theorem gm_u558 : Cond.code yX1_ruleOfComplement cX1_ruleOfComplement 1 (some .char) ∈ gm_U := gm_U_in (List.mem_of_getElem? (l := lw_tbl) (i := 558) (by decide +kernel)) rfl
theorem gm_u559 : Cond.methodLink RX1 64 yX1_ruleOfPair ∈ gm_U := gm_U_in (List.mem_of_getElem? (l := lw_tbl) (i := 559) (by decide +kernel)) rfl
theorem gm_u561 : Cond.instanceMethod yX1_ruleOfPair ∈ gm_U := gm_U_in (List.mem_of_getElem? (l := lw_tbl) (i := 561) (by decide +kernel)) rfl
theorem gm_u562 : Cond.code yX1_ruleOfPair cX1_ruleOfPair 7 (some .char) ∈ gm_U := gm_U_in (List.mem_of_getElem? (l := lw_tbl) (i := 562) (by decide +kernel)) rfl
theorem gm_u563 : Cond.methodLink RX1 68 yX5_endOf ∈ gm_U := gm_U_in (List.mem_of_getElem? (l := lw_tbl) (i := 563) (by decide +kernel)) rfl
theorem gm_u564 : Cond.methodLink RX1 71 yX5_isSame ∈ gm_U := gm_U_in (List.mem_of_getElem? (l := lw_tbl) (i := 564) (by decide +kernel)) rfl
theorem gm_u565 : Cond.instanceMethod yX5_isSame ∈ gm_U := gm_U_in (List.mem_of_getElem? (l := lw_tbl) (i := 565) (by decide +kernel)) rfl
theorem gm_u566 : Cond.selects RX5 yX5_isSame yX5_isSame ∈ gm_U := gm_U_in (List.mem_of_getElem? (l := lw_tbl) (i := 566) (by decide +kernel)) rfl
theorem gm_u567 : Cond.code yX5_isSame cX5_isSame 5 (some .boolean) ∈ gm_U := gm_U_in (List.mem_of_getElem? (l := lw_tbl) (i := 567) (by decide +kernel)) rfl
theorem gm_u568 : Cond.methodLink RX5 26 yX5_at ∈ gm_U := gm_U_in (List.mem_of_getElem? (l := lw_tbl) (i := 568) (by decide +kernel)) rfl
theorem gm_u570 : Cond.methodLink RX6 165 yX1_nextRule ∈ gm_U := gm_U_in (List.mem_of_getElem? (l := lw_tbl) (i := 570) (by decide +kernel)) rfl
theorem gm_u571 : Cond.instanceMethod yX1_nextRule ∈ gm_U := gm_U_in (List.mem_of_getElem? (l := lw_tbl) (i := 571) (by decide +kernel)) rfl
theorem gm_u572 : Cond.selects RX1 yX1_nextRule yX1_nextRule ∈ gm_U := gm_U_in (List.mem_of_getElem? (l := lw_tbl) (i := 572) (by decide +kernel)) rfl
theorem gm_u573 : Cond.code yX1_nextRule cX1_nextRule 1 (some .char) ∈ gm_U := gm_U_in (List.mem_of_getElem? (l := lw_tbl) (i := 573) (by decide +kernel)) rfl
theorem gm_u574 : Cond.methodLink RL 183 yL_assume ∈ gm_U := gm_U_in (List.mem_of_getElem? (l := lw_tbl) (i := 574) (by decide +kernel)) rfl
theorem gm_u575 : Cond.static yL_assume ∈ gm_U := gm_U_in (List.mem_of_getElem? (l := lw_tbl) (i := 575) (by decide +kernel)) rfl
theorem gm_u576 : Cond.codeWith yL_assume cL_assume 5 (some .int) [(0, 7, 8, 14), (0, 7, 12, 28), (0, 7, 17, 16)] ∈ gm_U := gm_U_in (List.mem_of_getElem? (l := lw_tbl) (i := 576) (by decide +kernel)) rfl
theorem gm_u577 : Cond.methodLink RL 90 yX6_assume ∈ gm_U := gm_U_in (List.mem_of_getElem? (l := lw_tbl) (i := 577) (by decide +kernel)) rfl
theorem gm_u578 : Cond.instanceMethod yX6_assume ∈ gm_U := gm_U_in (List.mem_of_getElem? (l := lw_tbl) (i := 578) (by decide +kernel)) rfl
theorem gm_u579 : Cond.selects RX6 yX6_assume yX6_assume ∈ gm_U := gm_U_in (List.mem_of_getElem? (l := lw_tbl) (i := 579) (by decide +kernel)) rfl
theorem gm_u580 : Cond.code yX6_assume cX6_assume 4 (some .int) ∈ gm_U := gm_U_in (List.mem_of_getElem? (l := lw_tbl) (i := 580) (by decide +kernel)) rfl
theorem gm_u581 : Cond.methodLink RX6 173 yX6_checkStatement ∈ gm_U := gm_U_in (List.mem_of_getElem? (l := lw_tbl) (i := 581) (by decide +kernel)) rfl
theorem gm_u583 : Cond.instanceMethod yX6_checkStatement ∈ gm_U := gm_U_in (List.mem_of_getElem? (l := lw_tbl) (i := 583) (by decide +kernel)) rfl
theorem gm_u584 : Cond.code yX6_checkStatement cX6_checkStatement 4 none ∈ gm_U := gm_U_in (List.mem_of_getElem? (l := lw_tbl) (i := 584) (by decide +kernel)) rfl
theorem gm_u585 : Cond.methodLink RX6 228 yX6_isDenial ∈ gm_U := gm_U_in (List.mem_of_getElem? (l := lw_tbl) (i := 585) (by decide +kernel)) rfl
theorem gm_u586 : Cond.static yX6_isDenial ∈ gm_U := gm_U_in (List.mem_of_getElem? (l := lw_tbl) (i := 586) (by decide +kernel)) rfl
theorem gm_u587 : Cond.code yX6_isDenial cX6_isDenial 1 (some .boolean) ∈ gm_U := gm_U_in (List.mem_of_getElem? (l := lw_tbl) (i := 587) (by decide +kernel)) rfl
theorem gm_u588 : Cond.methodLink RX6 180 yX6_isDemand ∈ gm_U := gm_U_in (List.mem_of_getElem? (l := lw_tbl) (i := 588) (by decide +kernel)) rfl
theorem gm_u589 : Cond.static yX6_isDemand ∈ gm_U := gm_U_in (List.mem_of_getElem? (l := lw_tbl) (i := 589) (by decide +kernel)) rfl
theorem gm_u590 : Cond.code yX6_isDemand cX6_isDemand 1 (some .boolean) ∈ gm_U := gm_U_in (List.mem_of_getElem? (l := lw_tbl) (i := 590) (by decide +kernel)) rfl
theorem gm_u592 : Cond.methodLink RX6 177 yX3_howMany ∈ gm_U := gm_U_in (List.mem_of_getElem? (l := lw_tbl) (i := 592) (by decide +kernel)) rfl
theorem gm_u593 : Cond.instanceMethod yX3_howMany ∈ gm_U := gm_U_in (List.mem_of_getElem? (l := lw_tbl) (i := 593) (by decide +kernel)) rfl
theorem gm_u594 : Cond.selects RX3 yX3_howMany yX3_howMany ∈ gm_U := gm_U_in (List.mem_of_getElem? (l := lw_tbl) (i := 594) (by decide +kernel)) rfl
theorem gm_u595 : Cond.code yX3_howMany cX3_howMany 1 (some .int) ∈ gm_U := gm_U_in (List.mem_of_getElem? (l := lw_tbl) (i := 595) (by decide +kernel)) rfl
theorem gm_u597 : Cond.methodLink RX6 184 yX6_placesOf ∈ gm_U := gm_U_in (List.mem_of_getElem? (l := lw_tbl) (i := 597) (by decide +kernel)) rfl
theorem gm_u599 : Cond.instanceMethod yX6_placesOf ∈ gm_U := gm_U_in (List.mem_of_getElem? (l := lw_tbl) (i := 599) (by decide +kernel)) rfl
theorem gm_u600 : Cond.code yX6_placesOf cX6_placesOf 6 (some .int) ∈ gm_U := gm_U_in (List.mem_of_getElem? (l := lw_tbl) (i := 600) (by decide +kernel)) rfl
theorem gm_u601 : Cond.methodLink RX6 187 yX3_add ∈ gm_U := gm_U_in (List.mem_of_getElem? (l := lw_tbl) (i := 601) (by decide +kernel)) rfl
theorem gm_u602 : Cond.instanceMethod yX3_add ∈ gm_U := gm_U_in (List.mem_of_getElem? (l := lw_tbl) (i := 602) (by decide +kernel)) rfl
theorem gm_u603 : Cond.selects RX3 yX3_add yX3_add ∈ gm_U := gm_U_in (List.mem_of_getElem? (l := lw_tbl) (i := 603) (by decide +kernel)) rfl
theorem gm_u604 : Cond.code yX3_add cX3_add 3 none ∈ gm_U := gm_U_in (List.mem_of_getElem? (l := lw_tbl) (i := 604) (by decide +kernel)) rfl
theorem gm_u605 : Cond.methodLink RL 186 yL_drop ∈ gm_U := gm_U_in (List.mem_of_getElem? (l := lw_tbl) (i := 605) (by decide +kernel)) rfl
theorem gm_u606 : Cond.static yL_drop ∈ gm_U := gm_U_in (List.mem_of_getElem? (l := lw_tbl) (i := 606) (by decide +kernel)) rfl
theorem gm_u607 : Cond.codeWith yL_drop cL_drop 2 (some .int) [(0, 4, 5, 16)] ∈ gm_U := gm_U_in (List.mem_of_getElem? (l := lw_tbl) (i := 607) (by decide +kernel)) rfl
theorem gm_u608 : Cond.methodLink RL 94 yX6_drop ∈ gm_U := gm_U_in (List.mem_of_getElem? (l := lw_tbl) (i := 608) (by decide +kernel)) rfl
theorem gm_u609 : Cond.instanceMethod yX6_drop ∈ gm_U := gm_U_in (List.mem_of_getElem? (l := lw_tbl) (i := 609) (by decide +kernel)) rfl
theorem gm_u610 : Cond.selects RX6 yX6_drop yX6_drop ∈ gm_U := gm_U_in (List.mem_of_getElem? (l := lw_tbl) (i := 610) (by decide +kernel)) rfl
theorem gm_u611 : Cond.code yX6_drop cX6_drop 1 (some .int) ∈ gm_U := gm_U_in (List.mem_of_getElem? (l := lw_tbl) (i := 611) (by decide +kernel)) rfl
theorem gm_u613 : Cond.methodLink RX6 193 yX3_removeLast ∈ gm_U := gm_U_in (List.mem_of_getElem? (l := lw_tbl) (i := 613) (by decide +kernel)) rfl
theorem gm_u614 : Cond.instanceMethod yX3_removeLast ∈ gm_U := gm_U_in (List.mem_of_getElem? (l := lw_tbl) (i := 614) (by decide +kernel)) rfl
theorem gm_u615 : Cond.selects RX3 yX3_removeLast yX3_removeLast ∈ gm_U := gm_U_in (List.mem_of_getElem? (l := lw_tbl) (i := 615) (by decide +kernel)) rfl
theorem gm_u616 : Cond.code yX3_removeLast cX3_removeLast 1 none ∈ gm_U := gm_U_in (List.mem_of_getElem? (l := lw_tbl) (i := 616) (by decide +kernel)) rfl
theorem gm_u617 : Cond.methodLink RL 188 yL_setGoal ∈ gm_U := gm_U_in (List.mem_of_getElem? (l := lw_tbl) (i := 617) (by decide +kernel)) rfl
theorem gm_u618 : Cond.static yL_setGoal ∈ gm_U := gm_U_in (List.mem_of_getElem? (l := lw_tbl) (i := 618) (by decide +kernel)) rfl
theorem gm_u619 : Cond.codeWith yL_setGoal cL_setGoal 5 (some .int) [(0, 15, 16, 14), (0, 15, 20, 28)] ∈ gm_U := gm_U_in (List.mem_of_getElem? (l := lw_tbl) (i := 619) (by decide +kernel)) rfl
theorem gm_u620 : Cond.methodLink RL 97 yX6_setGoal ∈ gm_U := gm_U_in (List.mem_of_getElem? (l := lw_tbl) (i := 620) (by decide +kernel)) rfl
theorem gm_u621 : Cond.instanceMethod yX6_setGoal ∈ gm_U := gm_U_in (List.mem_of_getElem? (l := lw_tbl) (i := 621) (by decide +kernel)) rfl
theorem gm_u622 : Cond.selects RX6 yX6_setGoal yX6_setGoal ∈ gm_U := gm_U_in (List.mem_of_getElem? (l := lw_tbl) (i := 622) (by decide +kernel)) rfl
theorem gm_u623 : Cond.code yX6_setGoal cX6_setGoal 5 (some .boolean) ∈ gm_U := gm_U_in (List.mem_of_getElem? (l := lw_tbl) (i := 623) (by decide +kernel)) rfl
theorem gm_u624 : Cond.methodLink RX6 196 yX3_hasGoal ∈ gm_U := gm_U_in (List.mem_of_getElem? (l := lw_tbl) (i := 624) (by decide +kernel)) rfl
theorem gm_u625 : Cond.instanceMethod yX3_hasGoal ∈ gm_U := gm_U_in (List.mem_of_getElem? (l := lw_tbl) (i := 625) (by decide +kernel)) rfl
theorem gm_u626 : Cond.selects RX3 yX3_hasGoal yX3_hasGoal ∈ gm_U := gm_U_in (List.mem_of_getElem? (l := lw_tbl) (i := 626) (by decide +kernel)) rfl
theorem gm_u627 : Cond.code yX3_hasGoal cX3_hasGoal 1 (some .boolean) ∈ gm_U := gm_U_in (List.mem_of_getElem? (l := lw_tbl) (i := 627) (by decide +kernel)) rfl
theorem gm_u628 : Cond.methodLink RX6 199 yX3_aimAt ∈ gm_U := gm_U_in (List.mem_of_getElem? (l := lw_tbl) (i := 628) (by decide +kernel)) rfl
theorem gm_u629 : Cond.instanceMethod yX3_aimAt ∈ gm_U := gm_U_in (List.mem_of_getElem? (l := lw_tbl) (i := 629) (by decide +kernel)) rfl
theorem gm_u630 : Cond.selects RX3 yX3_aimAt yX3_aimAt ∈ gm_U := gm_U_in (List.mem_of_getElem? (l := lw_tbl) (i := 630) (by decide +kernel)) rfl
theorem gm_u631 : Cond.code yX3_aimAt cX3_aimAt 3 none ∈ gm_U := gm_U_in (List.mem_of_getElem? (l := lw_tbl) (i := 631) (by decide +kernel)) rfl
theorem gm_u632 : Cond.methodLink RL 268 yL_deniedBy ∈ gm_U := gm_U_in (List.mem_of_getElem? (l := lw_tbl) (i := 632) (by decide +kernel)) rfl
theorem gm_u633 : Cond.static yL_deniedBy ∈ gm_U := gm_U_in (List.mem_of_getElem? (l := lw_tbl) (i := 633) (by decide +kernel)) rfl
theorem gm_u634 : Cond.codeWith yL_deniedBy cL_deniedBy 3 (some .int) [(0, 5, 6, 14), (0, 5, 9, 50)] ∈ gm_U := gm_U_in (List.mem_of_getElem? (l := lw_tbl) (i := 634) (by decide +kernel)) rfl
theorem gm_u635 : Cond.methodLink RL 101 yX6_deniedBy ∈ gm_U := gm_U_in (List.mem_of_getElem? (l := lw_tbl) (i := 635) (by decide +kernel)) rfl
theorem gm_u636 : Cond.instanceMethod yX6_deniedBy ∈ gm_U := gm_U_in (List.mem_of_getElem? (l := lw_tbl) (i := 636) (by decide +kernel)) rfl
theorem gm_u637 : Cond.selects RX6 yX6_deniedBy yX6_deniedBy ∈ gm_U := gm_U_in (List.mem_of_getElem? (l := lw_tbl) (i := 637) (by decide +kernel)) rfl
theorem gm_u638 : Cond.code yX6_deniedBy cX6_deniedBy 3 (some .int) ∈ gm_U := gm_U_in (List.mem_of_getElem? (l := lw_tbl) (i := 638) (by decide +kernel)) rfl
theorem gm_u639 : Cond.methodLink RX6 109 yX6_checkRegion ∈ gm_U := gm_U_in (List.mem_of_getElem? (l := lw_tbl) (i := 639) (by decide +kernel)) rfl
theorem gm_u641 : Cond.instanceMethod yX6_checkRegion ∈ gm_U := gm_U_in (List.mem_of_getElem? (l := lw_tbl) (i := 641) (by decide +kernel)) rfl
theorem gm_u642 : Cond.code yX6_checkRegion cX6_checkRegion 2 none ∈ gm_U := gm_U_in (List.mem_of_getElem? (l := lw_tbl) (i := 642) (by decide +kernel)) rfl
theorem gm_u644 : Cond.methodLink RX6 205 yX3_firstDenial ∈ gm_U := gm_U_in (List.mem_of_getElem? (l := lw_tbl) (i := 644) (by decide +kernel)) rfl
theorem gm_u645 : Cond.instanceMethod yX3_firstDenial ∈ gm_U := gm_U_in (List.mem_of_getElem? (l := lw_tbl) (i := 645) (by decide +kernel)) rfl
theorem gm_u646 : Cond.selects RX3 yX3_firstDenial yX3_firstDenial ∈ gm_U := gm_U_in (List.mem_of_getElem? (l := lw_tbl) (i := 646) (by decide +kernel)) rfl
theorem gm_u647 : Cond.code yX3_firstDenial cX3_firstDenial 3 (some .int) ∈ gm_U := gm_U_in (List.mem_of_getElem? (l := lw_tbl) (i := 647) (by decide +kernel)) rfl
theorem gm_u650 : Cond.methodLink RL 209 yL_follows ∈ gm_U := gm_U_in (List.mem_of_getElem? (l := lw_tbl) (i := 650) (by decide +kernel)) rfl
theorem gm_u651 : Cond.static yL_follows ∈ gm_U := gm_U_in (List.mem_of_getElem? (l := lw_tbl) (i := 651) (by decide +kernel)) rfl
theorem gm_u652 : Cond.codeWith yL_follows cL_follows 2 (some .int) [(0, 12, 13, 16)] ∈ gm_U := gm_U_in (List.mem_of_getElem? (l := lw_tbl) (i := 652) (by decide +kernel)) rfl
theorem gm_u653 : Cond.methodLink RL 104 yX6_follows ∈ gm_U := gm_U_in (List.mem_of_getElem? (l := lw_tbl) (i := 653) (by decide +kernel)) rfl
theorem gm_u654 : Cond.instanceMethod yX6_follows ∈ gm_U := gm_U_in (List.mem_of_getElem? (l := lw_tbl) (i := 654) (by decide +kernel)) rfl
theorem gm_u655 : Cond.selects RX6 yX6_follows yX6_follows ∈ gm_U := gm_U_in (List.mem_of_getElem? (l := lw_tbl) (i := 655) (by decide +kernel)) rfl
theorem gm_u656 : Cond.code yX6_follows cX6_follows 1 (some .boolean) ∈ gm_U := gm_U_in (List.mem_of_getElem? (l := lw_tbl) (i := 656) (by decide +kernel)) rfl
theorem gm_u657 : Cond.methodLink RX6 210 yX6_checkGoal ∈ gm_U := gm_U_in (List.mem_of_getElem? (l := lw_tbl) (i := 657) (by decide +kernel)) rfl
theorem gm_u659 : Cond.instanceMethod yX6_checkGoal ∈ gm_U := gm_U_in (List.mem_of_getElem? (l := lw_tbl) (i := 659) (by decide +kernel)) rfl
theorem gm_u660 : Cond.code yX6_checkGoal cX6_checkGoal 1 none ∈ gm_U := gm_U_in (List.mem_of_getElem? (l := lw_tbl) (i := 660) (by decide +kernel)) rfl
theorem gm_u662 : Cond.methodLink RX6 213 yX3_proveGoal ∈ gm_U := gm_U_in (List.mem_of_getElem? (l := lw_tbl) (i := 662) (by decide +kernel)) rfl
theorem gm_u663 : Cond.instanceMethod yX3_proveGoal ∈ gm_U := gm_U_in (List.mem_of_getElem? (l := lw_tbl) (i := 663) (by decide +kernel)) rfl
theorem gm_u664 : Cond.selects RX3 yX3_proveGoal yX3_proveGoal ∈ gm_U := gm_U_in (List.mem_of_getElem? (l := lw_tbl) (i := 664) (by decide +kernel)) rfl
theorem gm_u665 : Cond.code yX3_proveGoal cX3_proveGoal 1 (some .boolean) ∈ gm_U := gm_U_in (List.mem_of_getElem? (l := lw_tbl) (i := 665) (by decide +kernel)) rfl
theorem gm_u666 : Cond.methodLink RX3 53 yX3_firstWitness ∈ gm_U := gm_U_in (List.mem_of_getElem? (l := lw_tbl) (i := 666) (by decide +kernel)) rfl
theorem gm_u667 : Cond.instanceMethod yX3_firstWitness ∈ gm_U := gm_U_in (List.mem_of_getElem? (l := lw_tbl) (i := 667) (by decide +kernel)) rfl
theorem gm_u668 : Cond.selects RX3 yX3_firstWitness yX3_firstWitness ∈ gm_U := gm_U_in (List.mem_of_getElem? (l := lw_tbl) (i := 668) (by decide +kernel)) rfl
theorem gm_u669 : Cond.code yX3_firstWitness cX3_firstWitness 1 (some .int) ∈ gm_U := gm_U_in (List.mem_of_getElem? (l := lw_tbl) (i := 669) (by decide +kernel)) rfl
theorem gm_u670 : Cond.methodLink RX3 56 yX3_haveModel ∈ gm_U := gm_U_in (List.mem_of_getElem? (l := lw_tbl) (i := 670) (by decide +kernel)) rfl
theorem gm_u671 : Cond.methodLink RL 260 yL_why ∈ gm_U := gm_U_in (List.mem_of_getElem? (l := lw_tbl) (i := 671) (by decide +kernel)) rfl
theorem gm_u672 : Cond.static yL_why ∈ gm_U := gm_U_in (List.mem_of_getElem? (l := lw_tbl) (i := 672) (by decide +kernel)) rfl
theorem gm_u673 : Cond.codeWith yL_why cL_why 2 (some .int) [(0, 4, 5, 16), (0, 4, 8, 50)] ∈ gm_U := gm_U_in (List.mem_of_getElem? (l := lw_tbl) (i := 673) (by decide +kernel)) rfl
theorem gm_u674 : Cond.methodLink RL 108 yX6_why ∈ gm_U := gm_U_in (List.mem_of_getElem? (l := lw_tbl) (i := 674) (by decide +kernel)) rfl
theorem gm_u675 : Cond.instanceMethod yX6_why ∈ gm_U := gm_U_in (List.mem_of_getElem? (l := lw_tbl) (i := 675) (by decide +kernel)) rfl
theorem gm_u676 : Cond.selects RX6 yX6_why yX6_why ∈ gm_U := gm_U_in (List.mem_of_getElem? (l := lw_tbl) (i := 676) (by decide +kernel)) rfl
theorem gm_u677 : Cond.code yX6_why cX6_why 1 (some .char) ∈ gm_U := gm_U_in (List.mem_of_getElem? (l := lw_tbl) (i := 677) (by decide +kernel)) rfl
theorem gm_u679 : Cond.methodLink RX6 218 yX3_goalDemands ∈ gm_U := gm_U_in (List.mem_of_getElem? (l := lw_tbl) (i := 679) (by decide +kernel)) rfl
theorem gm_u680 : Cond.instanceMethod yX3_goalDemands ∈ gm_U := gm_U_in (List.mem_of_getElem? (l := lw_tbl) (i := 680) (by decide +kernel)) rfl
theorem gm_u681 : Cond.selects RX3 yX3_goalDemands yX3_goalDemands ∈ gm_U := gm_U_in (List.mem_of_getElem? (l := lw_tbl) (i := 681) (by decide +kernel)) rfl
theorem gm_u682 : Cond.code yX3_goalDemands cX3_goalDemands 1 (some .boolean) ∈ gm_U := gm_U_in (List.mem_of_getElem? (l := lw_tbl) (i := 682) (by decide +kernel)) rfl
theorem gm_u683 : Cond.methodLink RL 213 yL_witness ∈ gm_U := gm_U_in (List.mem_of_getElem? (l := lw_tbl) (i := 683) (by decide +kernel)) rfl
theorem gm_u684 : Cond.static yL_witness ∈ gm_U := gm_U_in (List.mem_of_getElem? (l := lw_tbl) (i := 684) (by decide +kernel)) rfl
theorem gm_u685 : Cond.codeWith yL_witness cL_witness 2 (some .int) [(0, 4, 5, 16), (0, 4, 8, 72), (0, 4, 12, 50)] ∈ gm_U := gm_U_in (List.mem_of_getElem? (l := lw_tbl) (i := 685) (by decide +kernel)) rfl
theorem gm_u686 : Cond.classLink RL 72 "java/lang/UnsupportedOperationException" ∈ gm_U := gm_U_in (List.mem_of_getElem? (l := lw_tbl) (i := 686) (by decide +kernel)) rfl
theorem gm_u687 : Cond.methodLink RL 112 yX6_witness ∈ gm_U := gm_U_in (List.mem_of_getElem? (l := lw_tbl) (i := 687) (by decide +kernel)) rfl
theorem gm_u688 : Cond.instanceMethod yX6_witness ∈ gm_U := gm_U_in (List.mem_of_getElem? (l := lw_tbl) (i := 688) (by decide +kernel)) rfl
theorem gm_u689 : Cond.selects RX6 yX6_witness yX6_witness ∈ gm_U := gm_U_in (List.mem_of_getElem? (l := lw_tbl) (i := 689) (by decide +kernel)) rfl
theorem gm_u690 : Cond.code yX6_witness cX6_witness 2 (some .int) ∈ gm_U := gm_U_in (List.mem_of_getElem? (l := lw_tbl) (i := 690) (by decide +kernel)) rfl
theorem gm_u691 : Cond.classLink RX6 168 "java/lang/UnsupportedOperationException" ∈ gm_U := gm_U_in (List.mem_of_getElem? (l := lw_tbl) (i := 691) (by decide +kernel)) rfl
theorem gm_u707 : Cond.methodLink RX6 223 yX3_firstWitness ∈ gm_U := gm_U_in (List.mem_of_getElem? (l := lw_tbl) (i := 707) (by decide +kernel)) rfl
theorem gm_u709 : Cond.methodLink RL 211 yL_elements ∈ gm_U := gm_U_in (List.mem_of_getElem? (l := lw_tbl) (i := 709) (by decide +kernel)) rfl
theorem gm_u710 : Cond.static yL_elements ∈ gm_U := gm_U_in (List.mem_of_getElem? (l := lw_tbl) (i := 710) (by decide +kernel)) rfl
theorem gm_u711 : Cond.codeWith yL_elements cL_elements 2 (some .int) [(0, 4, 5, 16), (0, 4, 8, 50)] ∈ gm_U := gm_U_in (List.mem_of_getElem? (l := lw_tbl) (i := 711) (by decide +kernel)) rfl
theorem gm_u712 : Cond.methodLink RL 115 yX6_elements ∈ gm_U := gm_U_in (List.mem_of_getElem? (l := lw_tbl) (i := 712) (by decide +kernel)) rfl
theorem gm_u713 : Cond.instanceMethod yX6_elements ∈ gm_U := gm_U_in (List.mem_of_getElem? (l := lw_tbl) (i := 713) (by decide +kernel)) rfl
theorem gm_u714 : Cond.selects RX6 yX6_elements yX6_elements ∈ gm_U := gm_U_in (List.mem_of_getElem? (l := lw_tbl) (i := 714) (by decide +kernel)) rfl
theorem gm_u715 : Cond.code yX6_elements cX6_elements 1 (some .int) ∈ gm_U := gm_U_in (List.mem_of_getElem? (l := lw_tbl) (i := 715) (by decide +kernel)) rfl
theorem gm_u716 : Cond.methodLink RX6 235 yX2_prepare ∈ gm_U := gm_U_in (List.mem_of_getElem? (l := lw_tbl) (i := 716) (by decide +kernel)) rfl
theorem gm_u717 : Cond.instanceMethod yX2_prepare ∈ gm_U := gm_U_in (List.mem_of_getElem? (l := lw_tbl) (i := 717) (by decide +kernel)) rfl
theorem gm_u718 : Cond.selects RX2 yX2_prepare yX2_prepare ∈ gm_U := gm_U_in (List.mem_of_getElem? (l := lw_tbl) (i := 718) (by decide +kernel)) rfl
theorem gm_u719 : Cond.code yX2_prepare cX2_prepare 4 none ∈ gm_U := gm_U_in (List.mem_of_getElem? (l := lw_tbl) (i := 719) (by decide +kernel)) rfl
theorem gm_u720 : Cond.methodLink RX2 22 yX3_allowed ∈ gm_U := gm_U_in (List.mem_of_getElem? (l := lw_tbl) (i := 720) (by decide +kernel)) rfl
theorem gm_u721 : Cond.methodLink RX2 28 yX3_goalDemands ∈ gm_U := gm_U_in (List.mem_of_getElem? (l := lw_tbl) (i := 721) (by decide +kernel)) rfl
theorem gm_u722 : Cond.methodLink RX2 32 yX3_goalRegions ∈ gm_U := gm_U_in (List.mem_of_getElem? (l := lw_tbl) (i := 722) (by decide +kernel)) rfl
theorem gm_u723 : Cond.instanceMethod yX3_goalRegions ∈ gm_U := gm_U_in (List.mem_of_getElem? (l := lw_tbl) (i := 723) (by decide +kernel)) rfl
theorem gm_u724 : Cond.selects RX3 yX3_goalRegions yX3_goalRegions ∈ gm_U := gm_U_in (List.mem_of_getElem? (l := lw_tbl) (i := 724) (by decide +kernel)) rfl
theorem gm_u725 : Cond.code yX3_goalRegions cX3_goalRegions 1 (some .int) ∈ gm_U := gm_U_in (List.mem_of_getElem? (l := lw_tbl) (i := 725) (by decide +kernel)) rfl
theorem gm_u726 : Cond.methodLink RX2 35 yX2_want ∈ gm_U := gm_U_in (List.mem_of_getElem? (l := lw_tbl) (i := 726) (by decide +kernel)) rfl
theorem gm_u728 : Cond.instanceMethod yX2_want ∈ gm_U := gm_U_in (List.mem_of_getElem? (l := lw_tbl) (i := 728) (by decide +kernel)) rfl
theorem gm_u729 : Cond.code yX2_want cX2_want 4 none ∈ gm_U := gm_U_in (List.mem_of_getElem? (l := lw_tbl) (i := 729) (by decide +kernel)) rfl
theorem gm_u731 : Cond.methodLink RX2 39 yX3_howMany ∈ gm_U := gm_U_in (List.mem_of_getElem? (l := lw_tbl) (i := 731) (by decide +kernel)) rfl
theorem gm_u732 : Cond.methodLink RX2 42 yX3_demandsElement ∈ gm_U := gm_U_in (List.mem_of_getElem? (l := lw_tbl) (i := 732) (by decide +kernel)) rfl
theorem gm_u733 : Cond.methodLink RX2 46 yX3_placesAt ∈ gm_U := gm_U_in (List.mem_of_getElem? (l := lw_tbl) (i := 733) (by decide +kernel)) rfl
theorem gm_u734 : Cond.methodLink RX6 239 yX2_fewestBySets ∈ gm_U := gm_U_in (List.mem_of_getElem? (l := lw_tbl) (i := 734) (by decide +kernel)) rfl
theorem gm_u735 : Cond.instanceMethod yX2_fewestBySets ∈ gm_U := gm_U_in (List.mem_of_getElem? (l := lw_tbl) (i := 735) (by decide +kernel)) rfl
theorem gm_u736 : Cond.selects RX2 yX2_fewestBySets yX2_fewestBySets ∈ gm_U := gm_U_in (List.mem_of_getElem? (l := lw_tbl) (i := 736) (by decide +kernel)) rfl
theorem gm_u737 : Cond.code yX2_fewestBySets cX2_fewestBySets 6 (some .int) ∈ gm_U := gm_U_in (List.mem_of_getElem? (l := lw_tbl) (i := 737) (by decide +kernel)) rfl
theorem gm_u738 : Cond.methodLink RX2 54 yX2_fewestFrom ∈ gm_U := gm_U_in (List.mem_of_getElem? (l := lw_tbl) (i := 738) (by decide +kernel)) rfl
theorem gm_u740 : Cond.instanceMethod yX2_fewestFrom ∈ gm_U := gm_U_in (List.mem_of_getElem? (l := lw_tbl) (i := 740) (by decide +kernel)) rfl
theorem gm_u741 : Cond.code yX2_fewestFrom cX2_fewestFrom 3 (some .int) ∈ gm_U := gm_U_in (List.mem_of_getElem? (l := lw_tbl) (i := 741) (by decide +kernel)) rfl
theorem gm_u742 : Cond.methodLink RX2 58 yJ9_min_7cf53 ∈ gm_U := gm_U_in (List.mem_of_getElem? (l := lw_tbl) (i := 742) (by decide +kernel)) rfl
theorem gm_u743 : Cond.methodLink RX6 242 yX6_leastOrThrow ∈ gm_U := gm_U_in (List.mem_of_getElem? (l := lw_tbl) (i := 743) (by decide +kernel)) rfl
theorem gm_u745 : Cond.instanceMethod yX6_leastOrThrow ∈ gm_U := gm_U_in (List.mem_of_getElem? (l := lw_tbl) (i := 745) (by decide +kernel)) rfl
theorem gm_u746 : Cond.code yX6_leastOrThrow cX6_leastOrThrow 2 (some .int) ∈ gm_U := gm_U_in (List.mem_of_getElem? (l := lw_tbl) (i := 746) (by decide +kernel)) rfl
theorem gm_u748 : Cond.methodLink RL 266 yL_region ∈ gm_U := gm_U_in (List.mem_of_getElem? (l := lw_tbl) (i := 748) (by decide +kernel)) rfl
theorem gm_u749 : Cond.static yL_region ∈ gm_U := gm_U_in (List.mem_of_getElem? (l := lw_tbl) (i := 749) (by decide +kernel)) rfl
theorem gm_u750 : Cond.codeWith yL_region cL_region 3 (some .int) [(0, 5, 6, 16), (0, 5, 9, 50)] ∈ gm_U := gm_U_in (List.mem_of_getElem? (l := lw_tbl) (i := 750) (by decide +kernel)) rfl
theorem gm_u751 : Cond.methodLink RL 121 yX6_region ∈ gm_U := gm_U_in (List.mem_of_getElem? (l := lw_tbl) (i := 751) (by decide +kernel)) rfl
theorem gm_u752 : Cond.instanceMethod yX6_region ∈ gm_U := gm_U_in (List.mem_of_getElem? (l := lw_tbl) (i := 752) (by decide +kernel)) rfl
theorem gm_u753 : Cond.selects RX6 yX6_region yX6_region ∈ gm_U := gm_U_in (List.mem_of_getElem? (l := lw_tbl) (i := 753) (by decide +kernel)) rfl
theorem gm_u754 : Cond.code yX6_region cX6_region 3 (some .int) ∈ gm_U := gm_U_in (List.mem_of_getElem? (l := lw_tbl) (i := 754) (by decide +kernel)) rfl
theorem gm_u755 : Cond.methodLink RX6 248 yX2_regionOf ∈ gm_U := gm_U_in (List.mem_of_getElem? (l := lw_tbl) (i := 755) (by decide +kernel)) rfl
theorem gm_u756 : Cond.instanceMethod yX2_regionOf ∈ gm_U := gm_U_in (List.mem_of_getElem? (l := lw_tbl) (i := 756) (by decide +kernel)) rfl
theorem gm_u757 : Cond.selects RX2 yX2_regionOf yX2_regionOf ∈ gm_U := gm_U_in (List.mem_of_getElem? (l := lw_tbl) (i := 757) (by decide +kernel)) rfl
theorem gm_u758 : Cond.code yX2_regionOf cX2_regionOf 6 (some .int) ∈ gm_U := gm_U_in (List.mem_of_getElem? (l := lw_tbl) (i := 758) (by decide +kernel)) rfl
theorem gm_u760 : Cond.methodLink RL 215 yL_models ∈ gm_U := gm_U_in (List.mem_of_getElem? (l := lw_tbl) (i := 760) (by decide +kernel)) rfl
theorem gm_u761 : Cond.static yL_models ∈ gm_U := gm_U_in (List.mem_of_getElem? (l := lw_tbl) (i := 761) (by decide +kernel)) rfl
theorem gm_u762 : Cond.codeWith yL_models cL_models 3 (some .long) [(0, 5, 6, 14)] ∈ gm_U := gm_U_in (List.mem_of_getElem? (l := lw_tbl) (i := 762) (by decide +kernel)) rfl
theorem gm_u763 : Cond.methodLink RL 124 yX6_models ∈ gm_U := gm_U_in (List.mem_of_getElem? (l := lw_tbl) (i := 763) (by decide +kernel)) rfl
theorem gm_u764 : Cond.instanceMethod yX6_models ∈ gm_U := gm_U_in (List.mem_of_getElem? (l := lw_tbl) (i := 764) (by decide +kernel)) rfl
theorem gm_u765 : Cond.selects RX6 yX6_models yX6_models ∈ gm_U := gm_U_in (List.mem_of_getElem? (l := lw_tbl) (i := 765) (by decide +kernel)) rfl
theorem gm_u766 : Cond.code yX6_models cX6_models 2 (some .long) ∈ gm_U := gm_U_in (List.mem_of_getElem? (l := lw_tbl) (i := 766) (by decide +kernel)) rfl
theorem gm_u767 : Cond.methodLink RX6 253 yX6_checkElements ∈ gm_U := gm_U_in (List.mem_of_getElem? (l := lw_tbl) (i := 767) (by decide +kernel)) rfl
theorem gm_u769 : Cond.instanceMethod yX6_checkElements ∈ gm_U := gm_U_in (List.mem_of_getElem? (l := lw_tbl) (i := 769) (by decide +kernel)) rfl
theorem gm_u770 : Cond.code yX6_checkElements cX6_checkElements 3 none ∈ gm_U := gm_U_in (List.mem_of_getElem? (l := lw_tbl) (i := 770) (by decide +kernel)) rfl
theorem gm_u772 : Cond.methodLink RX6 257 yX3_countModels ∈ gm_U := gm_U_in (List.mem_of_getElem? (l := lw_tbl) (i := 772) (by decide +kernel)) rfl
theorem gm_u773 : Cond.instanceMethod yX3_countModels ∈ gm_U := gm_U_in (List.mem_of_getElem? (l := lw_tbl) (i := 773) (by decide +kernel)) rfl
theorem gm_u774 : Cond.selects RX3 yX3_countModels yX3_countModels ∈ gm_U := gm_U_in (List.mem_of_getElem? (l := lw_tbl) (i := 774) (by decide +kernel)) rfl
theorem gm_u775 : Cond.code yX3_countModels cX3_countModels 8 (some .long) ∈ gm_U := gm_U_in (List.mem_of_getElem? (l := lw_tbl) (i := 775) (by decide +kernel)) rfl
theorem gm_u776 : Cond.methodLink RX3 60 yX3_isSetOfDemands ∈ gm_U := gm_U_in (List.mem_of_getElem? (l := lw_tbl) (i := 776) (by decide +kernel)) rfl
theorem gm_u778 : Cond.instanceMethod yX3_isSetOfDemands ∈ gm_U := gm_U_in (List.mem_of_getElem? (l := lw_tbl) (i := 778) (by decide +kernel)) rfl
theorem gm_u779 : Cond.code yX3_isSetOfDemands cX3_isSetOfDemands 3 (some .boolean) ∈ gm_U := gm_U_in (List.mem_of_getElem? (l := lw_tbl) (i := 779) (by decide +kernel)) rfl
theorem gm_u780 : Cond.methodLink RX3 63 yX3_placesOfSet ∈ gm_U := gm_U_in (List.mem_of_getElem? (l := lw_tbl) (i := 780) (by decide +kernel)) rfl
theorem gm_u782 : Cond.instanceMethod yX3_placesOfSet ∈ gm_U := gm_U_in (List.mem_of_getElem? (l := lw_tbl) (i := 782) (by decide +kernel)) rfl
theorem gm_u783 : Cond.code yX3_placesOfSet cX3_placesOfSet 4 (some .int) ∈ gm_U := gm_U_in (List.mem_of_getElem? (l := lw_tbl) (i := 783) (by decide +kernel)) rfl
theorem gm_u784 : Cond.methodLink RX3 66 yJ6_bitCount_0f7a4 ∈ gm_U := gm_U_in (List.mem_of_getElem? (l := lw_tbl) (i := 784) (by decide +kernel)) rfl
theorem gm_u785 : Cond.methodLink RX3 71 yX3_power ∈ gm_U := gm_U_in (List.mem_of_getElem? (l := lw_tbl) (i := 785) (by decide +kernel)) rfl
theorem gm_u786 : Cond.static yX3_power ∈ gm_U := gm_U_in (List.mem_of_getElem? (l := lw_tbl) (i := 786) (by decide +kernel)) rfl
theorem gm_u787 : Cond.code yX3_power cX3_power 5 (some .long) ∈ gm_U := gm_U_in (List.mem_of_getElem? (l := lw_tbl) (i := 787) (by decide +kernel)) rfl
theorem gm_u788 : Cond.constantLong RL 128 (-1) ∈ gm_U := gm_U_in (List.mem_of_getElem? (l := lw_tbl) (i := 788) (by decide +kernel)) rfl
theorem gm_u789 : Cond.methodLink RL 287 yL_acts ∈ gm_U := gm_U_in (List.mem_of_getElem? (l := lw_tbl) (i := 789) (by decide +kernel)) rfl
theorem gm_u790 : Cond.static yL_acts ∈ gm_U := gm_U_in (List.mem_of_getElem? (l := lw_tbl) (i := 790) (by decide +kernel)) rfl
theorem gm_u791 : Cond.code yL_acts cL_acts 7 (some .int) ∈ gm_U := gm_U_in (List.mem_of_getElem? (l := lw_tbl) (i := 791) (by decide +kernel)) rfl
theorem gm_u792 : Cond.methodLink RL 141 yJ9_max_7cf53 ∈ gm_U := gm_U_in (List.mem_of_getElem? (l := lw_tbl) (i := 792) (by decide +kernel)) rfl
theorem gm_u834 : Cond.methodLink RL 163 yL_empty ∈ gm_U := gm_U_in (List.mem_of_getElem? (l := lw_tbl) (i := 834) (by decide +kernel)) rfl
theorem gm_u835 : Cond.static yL_empty ∈ gm_U := gm_U_in (List.mem_of_getElem? (l := lw_tbl) (i := 835) (by decide +kernel)) rfl
theorem gm_u836 : Cond.codeWith yL_empty cL_empty 2 (some .int) [(0, 4, 5, 16)] ∈ gm_U := gm_U_in (List.mem_of_getElem? (l := lw_tbl) (i := 836) (by decide +kernel)) rfl
theorem gm_u837 : Cond.methodLink RL 18 yX6_empty ∈ gm_U := gm_U_in (List.mem_of_getElem? (l := lw_tbl) (i := 837) (by decide +kernel)) rfl
theorem gm_u838 : Cond.instanceMethod yX6_empty ∈ gm_U := gm_U_in (List.mem_of_getElem? (l := lw_tbl) (i := 838) (by decide +kernel)) rfl
theorem gm_u839 : Cond.selects RX6 yX6_empty yX6_empty ∈ gm_U := gm_U_in (List.mem_of_getElem? (l := lw_tbl) (i := 839) (by decide +kernel)) rfl
theorem gm_u840 : Cond.code yX6_empty cX6_empty 1 (some .int) ∈ gm_U := gm_U_in (List.mem_of_getElem? (l := lw_tbl) (i := 840) (by decide +kernel)) rfl
theorem gm_u841 : Cond.methodLink RL 166 yL_universe ∈ gm_U := gm_U_in (List.mem_of_getElem? (l := lw_tbl) (i := 841) (by decide +kernel)) rfl
theorem gm_u842 : Cond.static yL_universe ∈ gm_U := gm_U_in (List.mem_of_getElem? (l := lw_tbl) (i := 842) (by decide +kernel)) rfl
theorem gm_u843 : Cond.codeWith yL_universe cL_universe 2 (some .int) [(0, 4, 5, 16)] ∈ gm_U := gm_U_in (List.mem_of_getElem? (l := lw_tbl) (i := 843) (by decide +kernel)) rfl
theorem gm_u844 : Cond.methodLink RL 22 yX6_universe ∈ gm_U := gm_U_in (List.mem_of_getElem? (l := lw_tbl) (i := 844) (by decide +kernel)) rfl
theorem gm_u845 : Cond.instanceMethod yX6_universe ∈ gm_U := gm_U_in (List.mem_of_getElem? (l := lw_tbl) (i := 845) (by decide +kernel)) rfl
theorem gm_u846 : Cond.selects RX6 yX6_universe yX6_universe ∈ gm_U := gm_U_in (List.mem_of_getElem? (l := lw_tbl) (i := 846) (by decide +kernel)) rfl
theorem gm_u847 : Cond.code yX6_universe cX6_universe 1 (some .int) ∈ gm_U := gm_U_in (List.mem_of_getElem? (l := lw_tbl) (i := 847) (by decide +kernel)) rfl
theorem gm_u848 : Cond.methodLink RL 170 yL_union ∈ gm_U := gm_U_in (List.mem_of_getElem? (l := lw_tbl) (i := 848) (by decide +kernel)) rfl
theorem gm_u849 : Cond.static yL_union ∈ gm_U := gm_U_in (List.mem_of_getElem? (l := lw_tbl) (i := 849) (by decide +kernel)) rfl
theorem gm_u850 : Cond.codeWith yL_union cL_union 4 (some .int) [(0, 6, 7, 28), (0, 6, 10, 16)] ∈ gm_U := gm_U_in (List.mem_of_getElem? (l := lw_tbl) (i := 850) (by decide +kernel)) rfl
theorem gm_u851 : Cond.methodLink RL 30 yX6_union ∈ gm_U := gm_U_in (List.mem_of_getElem? (l := lw_tbl) (i := 851) (by decide +kernel)) rfl
theorem gm_u852 : Cond.instanceMethod yX6_union ∈ gm_U := gm_U_in (List.mem_of_getElem? (l := lw_tbl) (i := 852) (by decide +kernel)) rfl
theorem gm_u853 : Cond.selects RX6 yX6_union yX6_union ∈ gm_U := gm_U_in (List.mem_of_getElem? (l := lw_tbl) (i := 853) (by decide +kernel)) rfl
theorem gm_u854 : Cond.code yX6_union cX6_union 3 (some .int) ∈ gm_U := gm_U_in (List.mem_of_getElem? (l := lw_tbl) (i := 854) (by decide +kernel)) rfl
theorem gm_u855 : Cond.methodLink RX6 59 yX6_makePair ∈ gm_U := gm_U_in (List.mem_of_getElem? (l := lw_tbl) (i := 855) (by decide +kernel)) rfl
theorem gm_u857 : Cond.instanceMethod yX6_makePair ∈ gm_U := gm_U_in (List.mem_of_getElem? (l := lw_tbl) (i := 857) (by decide +kernel)) rfl
theorem gm_u858 : Cond.code yX6_makePair cX6_makePair 4 (some .int) ∈ gm_U := gm_U_in (List.mem_of_getElem? (l := lw_tbl) (i := 858) (by decide +kernel)) rfl
theorem gm_u859 : Cond.methodLink RL 173 yL_intersection ∈ gm_U := gm_U_in (List.mem_of_getElem? (l := lw_tbl) (i := 859) (by decide +kernel)) rfl
theorem gm_u860 : Cond.static yL_intersection ∈ gm_U := gm_U_in (List.mem_of_getElem? (l := lw_tbl) (i := 860) (by decide +kernel)) rfl
theorem gm_u861 : Cond.codeWith yL_intersection cL_intersection 4 (some .int) [(0, 6, 7, 28), (0, 6, 10, 16)] ∈ gm_U := gm_U_in (List.mem_of_getElem? (l := lw_tbl) (i := 861) (by decide +kernel)) rfl
theorem gm_u862 : Cond.methodLink RL 34 yX6_intersection ∈ gm_U := gm_U_in (List.mem_of_getElem? (l := lw_tbl) (i := 862) (by decide +kernel)) rfl
theorem gm_u863 : Cond.instanceMethod yX6_intersection ∈ gm_U := gm_U_in (List.mem_of_getElem? (l := lw_tbl) (i := 863) (by decide +kernel)) rfl
theorem gm_u864 : Cond.selects RX6 yX6_intersection yX6_intersection ∈ gm_U := gm_U_in (List.mem_of_getElem? (l := lw_tbl) (i := 864) (by decide +kernel)) rfl
theorem gm_u865 : Cond.code yX6_intersection cX6_intersection 3 (some .int) ∈ gm_U := gm_U_in (List.mem_of_getElem? (l := lw_tbl) (i := 865) (by decide +kernel)) rfl
theorem gm_u866 : Cond.methodLink RL 175 yL_difference ∈ gm_U := gm_U_in (List.mem_of_getElem? (l := lw_tbl) (i := 866) (by decide +kernel)) rfl
theorem gm_u867 : Cond.static yL_difference ∈ gm_U := gm_U_in (List.mem_of_getElem? (l := lw_tbl) (i := 867) (by decide +kernel)) rfl
theorem gm_u868 : Cond.codeWith yL_difference cL_difference 4 (some .int) [(0, 6, 7, 28), (0, 6, 10, 16)] ∈ gm_U := gm_U_in (List.mem_of_getElem? (l := lw_tbl) (i := 868) (by decide +kernel)) rfl
theorem gm_u869 : Cond.methodLink RL 37 yX6_difference ∈ gm_U := gm_U_in (List.mem_of_getElem? (l := lw_tbl) (i := 869) (by decide +kernel)) rfl
theorem gm_u870 : Cond.instanceMethod yX6_difference ∈ gm_U := gm_U_in (List.mem_of_getElem? (l := lw_tbl) (i := 870) (by decide +kernel)) rfl
theorem gm_u871 : Cond.selects RX6 yX6_difference yX6_difference ∈ gm_U := gm_U_in (List.mem_of_getElem? (l := lw_tbl) (i := 871) (by decide +kernel)) rfl
theorem gm_u872 : Cond.code yX6_difference cX6_difference 3 (some .int) ∈ gm_U := gm_U_in (List.mem_of_getElem? (l := lw_tbl) (i := 872) (by decide +kernel)) rfl
theorem gm_u873 : Cond.methodLink RL 177 yL_symmetric ∈ gm_U := gm_U_in (List.mem_of_getElem? (l := lw_tbl) (i := 873) (by decide +kernel)) rfl
theorem gm_u874 : Cond.static yL_symmetric ∈ gm_U := gm_U_in (List.mem_of_getElem? (l := lw_tbl) (i := 874) (by decide +kernel)) rfl
theorem gm_u875 : Cond.codeWith yL_symmetric cL_symmetric 4 (some .int) [(0, 6, 7, 28), (0, 6, 10, 16)] ∈ gm_U := gm_U_in (List.mem_of_getElem? (l := lw_tbl) (i := 875) (by decide +kernel)) rfl
theorem gm_u876 : Cond.methodLink RL 40 yX6_symmetric ∈ gm_U := gm_U_in (List.mem_of_getElem? (l := lw_tbl) (i := 876) (by decide +kernel)) rfl
theorem gm_u877 : Cond.instanceMethod yX6_symmetric ∈ gm_U := gm_U_in (List.mem_of_getElem? (l := lw_tbl) (i := 877) (by decide +kernel)) rfl
theorem gm_u878 : Cond.selects RX6 yX6_symmetric yX6_symmetric ∈ gm_U := gm_U_in (List.mem_of_getElem? (l := lw_tbl) (i := 878) (by decide +kernel)) rfl
theorem gm_u879 : Cond.code yX6_symmetric cX6_symmetric 3 (some .int) ∈ gm_U := gm_U_in (List.mem_of_getElem? (l := lw_tbl) (i := 879) (by decide +kernel)) rfl
theorem gm_u880 : Cond.methodLink RL 179 yL_step ∈ gm_U := gm_U_in (List.mem_of_getElem? (l := lw_tbl) (i := 880) (by decide +kernel)) rfl
theorem gm_u881 : Cond.static yL_step ∈ gm_U := gm_U_in (List.mem_of_getElem? (l := lw_tbl) (i := 881) (by decide +kernel)) rfl
theorem gm_u882 : Cond.codeWith yL_step cL_step 3 (some .int) [(0, 5, 6, 28), (0, 5, 9, 50), (0, 5, 13, 72), (0, 5, 17, 16)] ∈ gm_U := gm_U_in (List.mem_of_getElem? (l := lw_tbl) (i := 882) (by decide +kernel)) rfl
theorem gm_u883 : Cond.methodLink RL 69 yX6_step ∈ gm_U := gm_U_in (List.mem_of_getElem? (l := lw_tbl) (i := 883) (by decide +kernel)) rfl
theorem gm_u884 : Cond.instanceMethod yX6_step ∈ gm_U := gm_U_in (List.mem_of_getElem? (l := lw_tbl) (i := 884) (by decide +kernel)) rfl
theorem gm_u885 : Cond.selects RX6 yX6_step yX6_step ∈ gm_U := gm_U_in (List.mem_of_getElem? (l := lw_tbl) (i := 885) (by decide +kernel)) rfl
theorem gm_u886 : Cond.code yX6_step cX6_step 2 (some .int) ∈ gm_U := gm_U_in (List.mem_of_getElem? (l := lw_tbl) (i := 886) (by decide +kernel)) rfl
theorem gm_u887 : Cond.methodLink RX6 127 yX6_rewriteOrThrow ∈ gm_U := gm_U_in (List.mem_of_getElem? (l := lw_tbl) (i := 887) (by decide +kernel)) rfl
theorem gm_u889 : Cond.instanceMethod yX6_rewriteOrThrow ∈ gm_U := gm_U_in (List.mem_of_getElem? (l := lw_tbl) (i := 889) (by decide +kernel)) rfl
theorem gm_u890 : Cond.code yX6_rewriteOrThrow cX6_rewriteOrThrow 1 none ∈ gm_U := gm_U_in (List.mem_of_getElem? (l := lw_tbl) (i := 890) (by decide +kernel)) rfl
theorem gm_u891 : Cond.methodLink RX6 143 yX1_rewrite ∈ gm_U := gm_U_in (List.mem_of_getElem? (l := lw_tbl) (i := 891) (by decide +kernel)) rfl
theorem gm_u892 : Cond.instanceMethod yX1_rewrite ∈ gm_U := gm_U_in (List.mem_of_getElem? (l := lw_tbl) (i := 892) (by decide +kernel)) rfl
theorem gm_u893 : Cond.selects RX1 yX1_rewrite yX1_rewrite ∈ gm_U := gm_U_in (List.mem_of_getElem? (l := lw_tbl) (i := 893) (by decide +kernel)) rfl
theorem gm_u894 : Cond.code yX1_rewrite cX1_rewrite 3 (some .boolean) ∈ gm_U := gm_U_in (List.mem_of_getElem? (l := lw_tbl) (i := 894) (by decide +kernel)) rfl
theorem gm_u895 : Cond.methodLink RX1 75 yX5_putPart ∈ gm_U := gm_U_in (List.mem_of_getElem? (l := lw_tbl) (i := 895) (by decide +kernel)) rfl
theorem gm_u896 : Cond.instanceMethod yX5_putPart ∈ gm_U := gm_U_in (List.mem_of_getElem? (l := lw_tbl) (i := 896) (by decide +kernel)) rfl
theorem gm_u897 : Cond.selects RX5 yX5_putPart yX5_putPart ∈ gm_U := gm_U_in (List.mem_of_getElem? (l := lw_tbl) (i := 897) (by decide +kernel)) rfl
theorem gm_u898 : Cond.code yX5_putPart cX5_putPart 5 none ∈ gm_U := gm_U_in (List.mem_of_getElem? (l := lw_tbl) (i := 898) (by decide +kernel)) rfl
theorem gm_u899 : Cond.methodLink RX5 30 yX5_put ∈ gm_U := gm_U_in (List.mem_of_getElem? (l := lw_tbl) (i := 899) (by decide +kernel)) rfl
theorem gm_u900 : Cond.methodLink RX1 79 yX1_putRewritten ∈ gm_U := gm_U_in (List.mem_of_getElem? (l := lw_tbl) (i := 900) (by decide +kernel)) rfl
theorem gm_u902 : Cond.instanceMethod yX1_putRewritten ∈ gm_U := gm_U_in (List.mem_of_getElem? (l := lw_tbl) (i := 902) (by decide +kernel)) rfl
theorem gm_u903 : Cond.code yX1_putRewritten cX1_putRewritten 4 none ∈ gm_U := gm_U_in (List.mem_of_getElem? (l := lw_tbl) (i := 903) (by decide +kernel)) rfl
theorem gm_u904 : Cond.methodLink RX1 83 yX1_putComplements ∈ gm_U := gm_U_in (List.mem_of_getElem? (l := lw_tbl) (i := 904) (by decide +kernel)) rfl
theorem gm_u906 : Cond.instanceMethod yX1_putComplements ∈ gm_U := gm_U_in (List.mem_of_getElem? (l := lw_tbl) (i := 906) (by decide +kernel)) rfl
theorem gm_u907 : Cond.code yX1_putComplements cX1_putComplements 5 none ∈ gm_U := gm_U_in (List.mem_of_getElem? (l := lw_tbl) (i := 907) (by decide +kernel)) rfl
theorem gm_u908 : Cond.methodLink RX1 87 yX1_putDifferences ∈ gm_U := gm_U_in (List.mem_of_getElem? (l := lw_tbl) (i := 908) (by decide +kernel)) rfl
theorem gm_u910 : Cond.instanceMethod yX1_putDifferences ∈ gm_U := gm_U_in (List.mem_of_getElem? (l := lw_tbl) (i := 910) (by decide +kernel)) rfl
theorem gm_u911 : Cond.code yX1_putDifferences cX1_putDifferences 4 none ∈ gm_U := gm_U_in (List.mem_of_getElem? (l := lw_tbl) (i := 911) (by decide +kernel)) rfl
theorem gm_u912 : Cond.methodLink RX1 91 yX1_putOtherSide ∈ gm_U := gm_U_in (List.mem_of_getElem? (l := lw_tbl) (i := 912) (by decide +kernel)) rfl
theorem gm_u914 : Cond.instanceMethod yX1_putOtherSide ∈ gm_U := gm_U_in (List.mem_of_getElem? (l := lw_tbl) (i := 914) (by decide +kernel)) rfl
theorem gm_u915 : Cond.code yX1_putOtherSide cX1_putOtherSide 5 none ∈ gm_U := gm_U_in (List.mem_of_getElem? (l := lw_tbl) (i := 915) (by decide +kernel)) rfl
theorem gm_u916 : Cond.methodLink RX1 95 yX1_constantOf ∈ gm_U := gm_U_in (List.mem_of_getElem? (l := lw_tbl) (i := 916) (by decide +kernel)) rfl
theorem gm_u917 : Cond.static yX1_constantOf ∈ gm_U := gm_U_in (List.mem_of_getElem? (l := lw_tbl) (i := 917) (by decide +kernel)) rfl
theorem gm_u918 : Cond.code yX1_constantOf cX1_constantOf 2 (some .char) ∈ gm_U := gm_U_in (List.mem_of_getElem? (l := lw_tbl) (i := 918) (by decide +kernel)) rfl
theorem gm_u920 : Cond.methodLink RX6 130 yX1_text ∈ gm_U := gm_U_in (List.mem_of_getElem? (l := lw_tbl) (i := 920) (by decide +kernel)) rfl
theorem gm_u921 : Cond.instanceMethod yX1_text ∈ gm_U := gm_U_in (List.mem_of_getElem? (l := lw_tbl) (i := 921) (by decide +kernel)) rfl
theorem gm_u922 : Cond.selects RX1 yX1_text yX1_text ∈ gm_U := gm_U_in (List.mem_of_getElem? (l := lw_tbl) (i := 922) (by decide +kernel)) rfl
theorem gm_u923 : Cond.code yX1_text cX1_text 1 (some (.object "Gimlet$Text")) ∈ gm_U := gm_U_in (List.mem_of_getElem? (l := lw_tbl) (i := 923) (by decide +kernel)) rfl
theorem gm_u924 : Cond.methodLink RX6 134 yX4_makeAll ∈ gm_U := gm_U_in (List.mem_of_getElem? (l := lw_tbl) (i := 924) (by decide +kernel)) rfl
theorem gm_u925 : Cond.instanceMethod yX4_makeAll ∈ gm_U := gm_U_in (List.mem_of_getElem? (l := lw_tbl) (i := 925) (by decide +kernel)) rfl
theorem gm_u926 : Cond.selects RX4 yX4_makeAll yX4_makeAll ∈ gm_U := gm_U_in (List.mem_of_getElem? (l := lw_tbl) (i := 926) (by decide +kernel)) rfl
theorem gm_u927 : Cond.code yX4_makeAll cX4_makeAll 4 (some .int) ∈ gm_U := gm_U_in (List.mem_of_getElem? (l := lw_tbl) (i := 927) (by decide +kernel)) rfl
theorem gm_u928 : Cond.methodLink RX4 65 yX5_rewind ∈ gm_U := gm_U_in (List.mem_of_getElem? (l := lw_tbl) (i := 928) (by decide +kernel)) rfl
theorem gm_u929 : Cond.instanceMethod yX5_rewind ∈ gm_U := gm_U_in (List.mem_of_getElem? (l := lw_tbl) (i := 929) (by decide +kernel)) rfl
theorem gm_u930 : Cond.selects RX5 yX5_rewind yX5_rewind ∈ gm_U := gm_U_in (List.mem_of_getElem? (l := lw_tbl) (i := 930) (by decide +kernel)) rfl
theorem gm_u931 : Cond.code yX5_rewind cX5_rewind 1 none ∈ gm_U := gm_U_in (List.mem_of_getElem? (l := lw_tbl) (i := 931) (by decide +kernel)) rfl
theorem gm_u932 : Cond.methodLink RX4 70 yX4_makeNext ∈ gm_U := gm_U_in (List.mem_of_getElem? (l := lw_tbl) (i := 932) (by decide +kernel)) rfl
theorem gm_u934 : Cond.instanceMethod yX4_makeNext ∈ gm_U := gm_U_in (List.mem_of_getElem? (l := lw_tbl) (i := 934) (by decide +kernel)) rfl
theorem gm_u935 : Cond.code yX4_makeNext cX4_makeNext 7 (some .int) ∈ gm_U := gm_U_in (List.mem_of_getElem? (l := lw_tbl) (i := 935) (by decide +kernel)) rfl
theorem gm_u936 : Cond.methodLink RX4 74 yX5_read ∈ gm_U := gm_U_in (List.mem_of_getElem? (l := lw_tbl) (i := 936) (by decide +kernel)) rfl
theorem gm_u937 : Cond.instanceMethod yX5_read ∈ gm_U := gm_U_in (List.mem_of_getElem? (l := lw_tbl) (i := 937) (by decide +kernel)) rfl
theorem gm_u938 : Cond.selects RX5 yX5_read yX5_read ∈ gm_U := gm_U_in (List.mem_of_getElem? (l := lw_tbl) (i := 938) (by decide +kernel)) rfl
theorem gm_u939 : Cond.code yX5_read cX5_read 2 (some .char) ∈ gm_U := gm_U_in (List.mem_of_getElem? (l := lw_tbl) (i := 939) (by decide +kernel)) rfl
theorem gm_u940 : Cond.methodLink RX4 78 yX5_partsOf ∈ gm_U := gm_U_in (List.mem_of_getElem? (l := lw_tbl) (i := 940) (by decide +kernel)) rfl
theorem gm_u941 : Cond.methodLink RX4 82 yX4_make ∈ gm_U := gm_U_in (List.mem_of_getElem? (l := lw_tbl) (i := 941) (by decide +kernel)) rfl
theorem gm_u942 : Cond.methodLink RL 181 yL_normalForm ∈ gm_U := gm_U_in (List.mem_of_getElem? (l := lw_tbl) (i := 942) (by decide +kernel)) rfl
theorem gm_u943 : Cond.static yL_normalForm ∈ gm_U := gm_U_in (List.mem_of_getElem? (l := lw_tbl) (i := 943) (by decide +kernel)) rfl
theorem gm_u944 : Cond.codeWith yL_normalForm cL_normalForm 3 (some .int) [(0, 5, 6, 28), (0, 5, 9, 72), (0, 5, 13, 16)] ∈ gm_U := gm_U_in (List.mem_of_getElem? (l := lw_tbl) (i := 944) (by decide +kernel)) rfl
theorem gm_u945 : Cond.methodLink RL 77 yX6_normalForm ∈ gm_U := gm_U_in (List.mem_of_getElem? (l := lw_tbl) (i := 945) (by decide +kernel)) rfl
theorem gm_u946 : Cond.instanceMethod yX6_normalForm ∈ gm_U := gm_U_in (List.mem_of_getElem? (l := lw_tbl) (i := 946) (by decide +kernel)) rfl
theorem gm_u947 : Cond.selects RX6 yX6_normalForm yX6_normalForm ∈ gm_U := gm_U_in (List.mem_of_getElem? (l := lw_tbl) (i := 947) (by decide +kernel)) rfl
theorem gm_u948 : Cond.code yX6_normalForm cX6_normalForm 3 (some .int) ∈ gm_U := gm_U_in (List.mem_of_getElem? (l := lw_tbl) (i := 948) (by decide +kernel)) rfl
theorem gm_u949 : Cond.constant RX6 138 (1000000) ∈ gm_U := gm_U_in (List.mem_of_getElem? (l := lw_tbl) (i := 949) (by decide +kernel)) rfl
theorem gm_u950 : Cond.methodLink RL 283 yL_told ∈ gm_U := gm_U_in (List.mem_of_getElem? (l := lw_tbl) (i := 950) (by decide +kernel)) rfl
theorem gm_u951 : Cond.static yL_told ∈ gm_U := gm_U_in (List.mem_of_getElem? (l := lw_tbl) (i := 951) (by decide +kernel)) rfl
theorem gm_u952 : Cond.code yL_told cL_told 3 (some (.object "java/lang/String")) ∈ gm_U := gm_U_in (List.mem_of_getElem? (l := lw_tbl) (i := 952) (by decide +kernel)) rfl
theorem gm_u953 : Cond.classLink RL 190 RJ4 ∈ gm_U := gm_U_in (List.mem_of_getElem? (l := lw_tbl) (i := 953) (by decide +kernel)) rfl
theorem gm_u954 : Cond.instantiable RJ4 4 ∈ gm_U := gm_U_in (List.mem_of_getElem? (l := lw_tbl) (i := 954) (by decide +kernel)) rfl
theorem gm_u974 : Cond.lays RJ4 "java/lang/AbstractStringBuilder" "value" "[B" ∈ gm_U := gm_U_in (List.mem_of_getElem? (l := lw_tbl) (i := 974) (by decide +kernel)) rfl
theorem gm_u976 : Cond.lays RJ4 "java/lang/AbstractStringBuilder" "coder" "B" ∈ gm_U := gm_U_in (List.mem_of_getElem? (l := lw_tbl) (i := 976) (by decide +kernel)) rfl
theorem gm_u978 : Cond.lays RJ4 "java/lang/AbstractStringBuilder" "maybeLatin1" "Z" ∈ gm_U := gm_U_in (List.mem_of_getElem? (l := lw_tbl) (i := 978) (by decide +kernel)) rfl
theorem gm_u980 : Cond.lays RJ4 "java/lang/AbstractStringBuilder" "count" "I" ∈ gm_U := gm_U_in (List.mem_of_getElem? (l := lw_tbl) (i := 980) (by decide +kernel)) rfl
theorem gm_u1088 : Cond.methodLink RL 200 yX6_assumptions ∈ gm_U := gm_U_in (List.mem_of_getElem? (l := lw_tbl) (i := 1088) (by decide +kernel)) rfl
theorem gm_u1089 : Cond.instanceMethod yX6_assumptions ∈ gm_U := gm_U_in (List.mem_of_getElem? (l := lw_tbl) (i := 1089) (by decide +kernel)) rfl
theorem gm_u1090 : Cond.selects RX6 yX6_assumptions yX6_assumptions ∈ gm_U := gm_U_in (List.mem_of_getElem? (l := lw_tbl) (i := 1090) (by decide +kernel)) rfl
theorem gm_u1091 : Cond.code yX6_assumptions cX6_assumptions 1 (some .int) ∈ gm_U := gm_U_in (List.mem_of_getElem? (l := lw_tbl) (i := 1091) (by decide +kernel)) rfl
theorem gm_u1221 : Cond.laysFinal RJ0 "java/lang/String" "value" "[B" ∈ gm_U := gm_U_in (List.mem_of_getElem? (l := lw_tbl) (i := 1221) (by decide +kernel)) rfl
theorem gm_u1223 : Cond.laysFinal RJ0 "java/lang/String" "coder" "B" ∈ gm_U := gm_U_in (List.mem_of_getElem? (l := lw_tbl) (i := 1223) (by decide +kernel)) rfl
theorem gm_u1225 : Cond.lays RJ0 "java/lang/String" "hash" "I" ∈ gm_U := gm_U_in (List.mem_of_getElem? (l := lw_tbl) (i := 1225) (by decide +kernel)) rfl
theorem gm_u1227 : Cond.lays RJ0 "java/lang/String" "hashIsZero" "Z" ∈ gm_U := gm_U_in (List.mem_of_getElem? (l := lw_tbl) (i := 1227) (by decide +kernel)) rfl
theorem gm_u1230 : Cond.methodLink RL 273 yL_stock ∈ gm_U := gm_U_in (List.mem_of_getElem? (l := lw_tbl) (i := 1230) (by decide +kernel)) rfl
theorem gm_u1231 : Cond.static yL_stock ∈ gm_U := gm_U_in (List.mem_of_getElem? (l := lw_tbl) (i := 1231) (by decide +kernel)) rfl
theorem gm_u1232 : Cond.code yL_stock cL_stock 2 (some .int) ∈ gm_U := gm_U_in (List.mem_of_getElem? (l := lw_tbl) (i := 1232) (by decide +kernel)) rfl
theorem gm_u1233 : Cond.methodLink RL 295 yL_term ∈ gm_U := gm_U_in (List.mem_of_getElem? (l := lw_tbl) (i := 1233) (by decide +kernel)) rfl
theorem gm_u1234 : Cond.static yL_term ∈ gm_U := gm_U_in (List.mem_of_getElem? (l := lw_tbl) (i := 1234) (by decide +kernel)) rfl
theorem gm_u1235 : Cond.code yL_term cL_term 10 (some .boolean) ∈ gm_U := gm_U_in (List.mem_of_getElem? (l := lw_tbl) (i := 1235) (by decide +kernel)) rfl
theorem gm_u1236 : Cond.methodLink RL 231 yL_covers ∈ gm_U := gm_U_in (List.mem_of_getElem? (l := lw_tbl) (i := 1236) (by decide +kernel)) rfl
theorem gm_u1237 : Cond.static yL_covers ∈ gm_U := gm_U_in (List.mem_of_getElem? (l := lw_tbl) (i := 1237) (by decide +kernel)) rfl
theorem gm_u1238 : Cond.codeWith yL_covers cL_covers 4 (some .int) [(0, 14, 15, 28), (0, 14, 18, 14)] ∈ gm_U := gm_U_in (List.mem_of_getElem? (l := lw_tbl) (i := 1238) (by decide +kernel)) rfl
theorem gm_u1239 : Cond.methodLink RL 55 yX6_covers ∈ gm_U := gm_U_in (List.mem_of_getElem? (l := lw_tbl) (i := 1239) (by decide +kernel)) rfl
theorem gm_u1240 : Cond.instanceMethod yX6_covers ∈ gm_U := gm_U_in (List.mem_of_getElem? (l := lw_tbl) (i := 1240) (by decide +kernel)) rfl
theorem gm_u1241 : Cond.selects RX6 yX6_covers yX6_covers ∈ gm_U := gm_U_in (List.mem_of_getElem? (l := lw_tbl) (i := 1241) (by decide +kernel)) rfl
theorem gm_u1242 : Cond.code yX6_covers cX6_covers 3 (some .boolean) ∈ gm_U := gm_U_in (List.mem_of_getElem? (l := lw_tbl) (i := 1242) (by decide +kernel)) rfl
theorem gm_u1243 : Cond.methodLink RX6 112 yX6_isIn ∈ gm_U := gm_U_in (List.mem_of_getElem? (l := lw_tbl) (i := 1243) (by decide +kernel)) rfl
theorem gm_u1244 : Cond.methodLink RL 233 yL_coversByTerm ∈ gm_U := gm_U_in (List.mem_of_getElem? (l := lw_tbl) (i := 1244) (by decide +kernel)) rfl
theorem gm_u1245 : Cond.static yL_coversByTerm ∈ gm_U := gm_U_in (List.mem_of_getElem? (l := lw_tbl) (i := 1245) (by decide +kernel)) rfl
theorem gm_u1246 : Cond.codeWith yL_coversByTerm cL_coversByTerm 4 (some .int) [(0, 14, 15, 28), (0, 14, 18, 14)] ∈ gm_U := gm_U_in (List.mem_of_getElem? (l := lw_tbl) (i := 1246) (by decide +kernel)) rfl
theorem gm_u1247 : Cond.methodLink RL 59 yX6_coversByTerm ∈ gm_U := gm_U_in (List.mem_of_getElem? (l := lw_tbl) (i := 1247) (by decide +kernel)) rfl
theorem gm_u1248 : Cond.instanceMethod yX6_coversByTerm ∈ gm_U := gm_U_in (List.mem_of_getElem? (l := lw_tbl) (i := 1248) (by decide +kernel)) rfl
theorem gm_u1249 : Cond.selects RX6 yX6_coversByTerm yX6_coversByTerm ∈ gm_U := gm_U_in (List.mem_of_getElem? (l := lw_tbl) (i := 1249) (by decide +kernel)) rfl
theorem gm_u1250 : Cond.code yX6_coversByTerm cX6_coversByTerm 3 (some .boolean) ∈ gm_U := gm_U_in (List.mem_of_getElem? (l := lw_tbl) (i := 1250) (by decide +kernel)) rfl
theorem gm_u1251 : Cond.methodLink RX6 116 yX4_reaches ∈ gm_U := gm_U_in (List.mem_of_getElem? (l := lw_tbl) (i := 1251) (by decide +kernel)) rfl
theorem gm_u1252 : Cond.instanceMethod yX4_reaches ∈ gm_U := gm_U_in (List.mem_of_getElem? (l := lw_tbl) (i := 1252) (by decide +kernel)) rfl
theorem gm_u1253 : Cond.selects RX4 yX4_reaches yX4_reaches ∈ gm_U := gm_U_in (List.mem_of_getElem? (l := lw_tbl) (i := 1253) (by decide +kernel)) rfl
theorem gm_u1254 : Cond.code yX4_reaches cX4_reaches 3 (some .boolean) ∈ gm_U := gm_U_in (List.mem_of_getElem? (l := lw_tbl) (i := 1254) (by decide +kernel)) rfl
theorem gm_u1255 : Cond.methodLink RX4 85 yX4_reachesBelow ∈ gm_U := gm_U_in (List.mem_of_getElem? (l := lw_tbl) (i := 1255) (by decide +kernel)) rfl
theorem gm_u1257 : Cond.instanceMethod yX4_reachesBelow ∈ gm_U := gm_U_in (List.mem_of_getElem? (l := lw_tbl) (i := 1257) (by decide +kernel)) rfl
theorem gm_u1258 : Cond.code yX4_reachesBelow cX4_reachesBelow 7 (some .boolean) ∈ gm_U := gm_U_in (List.mem_of_getElem? (l := lw_tbl) (i := 1258) (by decide +kernel)) rfl
theorem gm_u1260 : Cond.methodLink RL 237 yL_steps ∈ gm_U := gm_U_in (List.mem_of_getElem? (l := lw_tbl) (i := 1260) (by decide +kernel)) rfl
theorem gm_u1261 : Cond.static yL_steps ∈ gm_U := gm_U_in (List.mem_of_getElem? (l := lw_tbl) (i := 1261) (by decide +kernel)) rfl
theorem gm_u1262 : Cond.codeWith yL_steps cL_steps 3 (some .int) [(0, 5, 6, 28)] ∈ gm_U := gm_U_in (List.mem_of_getElem? (l := lw_tbl) (i := 1262) (by decide +kernel)) rfl
theorem gm_u1263 : Cond.methodLink RL 74 yX6_steps ∈ gm_U := gm_U_in (List.mem_of_getElem? (l := lw_tbl) (i := 1263) (by decide +kernel)) rfl
theorem gm_u1264 : Cond.instanceMethod yX6_steps ∈ gm_U := gm_U_in (List.mem_of_getElem? (l := lw_tbl) (i := 1264) (by decide +kernel)) rfl
theorem gm_u1265 : Cond.selects RX6 yX6_steps yX6_steps ∈ gm_U := gm_U_in (List.mem_of_getElem? (l := lw_tbl) (i := 1265) (by decide +kernel)) rfl
theorem gm_u1266 : Cond.code yX6_steps cX6_steps 3 (some .int) ∈ gm_U := gm_U_in (List.mem_of_getElem? (l := lw_tbl) (i := 1266) (by decide +kernel)) rfl
theorem gm_u1267 : Cond.methodLink RL 239 yL_density ∈ gm_U := gm_U_in (List.mem_of_getElem? (l := lw_tbl) (i := 1267) (by decide +kernel)) rfl
theorem gm_u1268 : Cond.static yL_density ∈ gm_U := gm_U_in (List.mem_of_getElem? (l := lw_tbl) (i := 1268) (by decide +kernel)) rfl
theorem gm_u1269 : Cond.codeWith yL_density cL_density 3 (some .float) [(0, 5, 6, 28)] ∈ gm_U := gm_U_in (List.mem_of_getElem? (l := lw_tbl) (i := 1269) (by decide +kernel)) rfl
theorem gm_u1270 : Cond.methodLink RL 133 yX6_density ∈ gm_U := gm_U_in (List.mem_of_getElem? (l := lw_tbl) (i := 1270) (by decide +kernel)) rfl
theorem gm_u1271 : Cond.instanceMethod yX6_density ∈ gm_U := gm_U_in (List.mem_of_getElem? (l := lw_tbl) (i := 1271) (by decide +kernel)) rfl
theorem gm_u1272 : Cond.selects RX6 yX6_density yX6_density ∈ gm_U := gm_U_in (List.mem_of_getElem? (l := lw_tbl) (i := 1272) (by decide +kernel)) rfl
theorem gm_u1273 : Cond.code yX6_density cX6_density 2 (some .float) ∈ gm_U := gm_U_in (List.mem_of_getElem? (l := lw_tbl) (i := 1273) (by decide +kernel)) rfl
theorem gm_u1274 : Cond.constantFloat RX6 264 (1098907648) ∈ gm_U := gm_U_in (List.mem_of_getElem? (l := lw_tbl) (i := 1274) (by decide +kernel)) rfl
theorem gm_u1275 : Cond.constantFloat RL 137 (3212836864) ∈ gm_U := gm_U_in (List.mem_of_getElem? (l := lw_tbl) (i := 1275) (by decide +kernel)) rfl
theorem gm_u1276 : Cond.constantFloat RL 242 (1098907648) ∈ gm_U := gm_U_in (List.mem_of_getElem? (l := lw_tbl) (i := 1276) (by decide +kernel)) rfl
theorem gm_u1277 : Cond.methodLink RL 243 yL_isEqual ∈ gm_U := gm_U_in (List.mem_of_getElem? (l := lw_tbl) (i := 1277) (by decide +kernel)) rfl
theorem gm_u1278 : Cond.static yL_isEqual ∈ gm_U := gm_U_in (List.mem_of_getElem? (l := lw_tbl) (i := 1278) (by decide +kernel)) rfl
theorem gm_u1279 : Cond.codeWith yL_isEqual cL_isEqual 4 (some .int) [(0, 14, 15, 28)] ∈ gm_U := gm_U_in (List.mem_of_getElem? (l := lw_tbl) (i := 1279) (by decide +kernel)) rfl
theorem gm_u1280 : Cond.methodLink RL 62 yX6_isEqual ∈ gm_U := gm_U_in (List.mem_of_getElem? (l := lw_tbl) (i := 1280) (by decide +kernel)) rfl
theorem gm_u1281 : Cond.instanceMethod yX6_isEqual ∈ gm_U := gm_U_in (List.mem_of_getElem? (l := lw_tbl) (i := 1281) (by decide +kernel)) rfl
theorem gm_u1282 : Cond.selects RX6 yX6_isEqual yX6_isEqual ∈ gm_U := gm_U_in (List.mem_of_getElem? (l := lw_tbl) (i := 1282) (by decide +kernel)) rfl
theorem gm_u1283 : Cond.code yX6_isEqual cX6_isEqual 3 (some .boolean) ∈ gm_U := gm_U_in (List.mem_of_getElem? (l := lw_tbl) (i := 1283) (by decide +kernel)) rfl
theorem gm_u1284 : Cond.methodLink RL 299 yL_implicants ∈ gm_U := gm_U_in (List.mem_of_getElem? (l := lw_tbl) (i := 1284) (by decide +kernel)) rfl
theorem gm_u1285 : Cond.static yL_implicants ∈ gm_U := gm_U_in (List.mem_of_getElem? (l := lw_tbl) (i := 1285) (by decide +kernel)) rfl
theorem gm_u1286 : Cond.code yL_implicants cL_implicants 13 (some .boolean) ∈ gm_U := gm_U_in (List.mem_of_getElem? (l := lw_tbl) (i := 1286) (by decide +kernel)) rfl
theorem gm_u1287 : Cond.methodLink RL 245 yL_primes ∈ gm_U := gm_U_in (List.mem_of_getElem? (l := lw_tbl) (i := 1287) (by decide +kernel)) rfl
theorem gm_u1288 : Cond.static yL_primes ∈ gm_U := gm_U_in (List.mem_of_getElem? (l := lw_tbl) (i := 1288) (by decide +kernel)) rfl
theorem gm_u1289 : Cond.codeWith yL_primes cL_primes 3 (some .int) [(0, 5, 6, 28)] ∈ gm_U := gm_U_in (List.mem_of_getElem? (l := lw_tbl) (i := 1289) (by decide +kernel)) rfl
theorem gm_u1290 : Cond.methodLink RL 80 yX6_primes ∈ gm_U := gm_U_in (List.mem_of_getElem? (l := lw_tbl) (i := 1290) (by decide +kernel)) rfl
theorem gm_u1291 : Cond.instanceMethod yX6_primes ∈ gm_U := gm_U_in (List.mem_of_getElem? (l := lw_tbl) (i := 1291) (by decide +kernel)) rfl
theorem gm_u1292 : Cond.selects RX6 yX6_primes yX6_primes ∈ gm_U := gm_U_in (List.mem_of_getElem? (l := lw_tbl) (i := 1292) (by decide +kernel)) rfl
theorem gm_u1293 : Cond.code yX6_primes cX6_primes 2 (some .int) ∈ gm_U := gm_U_in (List.mem_of_getElem? (l := lw_tbl) (i := 1293) (by decide +kernel)) rfl
theorem gm_u1294 : Cond.methodLink RX6 146 yX0_join ∈ gm_U := gm_U_in (List.mem_of_getElem? (l := lw_tbl) (i := 1294) (by decide +kernel)) rfl
theorem gm_u1295 : Cond.instanceMethod yX0_join ∈ gm_U := gm_U_in (List.mem_of_getElem? (l := lw_tbl) (i := 1295) (by decide +kernel)) rfl
theorem gm_u1296 : Cond.selects RX0 yX0_join yX0_join ∈ gm_U := gm_U_in (List.mem_of_getElem? (l := lw_tbl) (i := 1296) (by decide +kernel)) rfl
theorem gm_u1297 : Cond.code yX0_join cX0_join 4 none ∈ gm_U := gm_U_in (List.mem_of_getElem? (l := lw_tbl) (i := 1297) (by decide +kernel)) rfl
theorem gm_u1298 : Cond.methodLink RX0 37 yX0_isSingle ∈ gm_U := gm_U_in (List.mem_of_getElem? (l := lw_tbl) (i := 1298) (by decide +kernel)) rfl
theorem gm_u1299 : Cond.static yX0_isSingle ∈ gm_U := gm_U_in (List.mem_of_getElem? (l := lw_tbl) (i := 1299) (by decide +kernel)) rfl
theorem gm_u1300 : Cond.code yX0_isSingle cX0_isSingle 2 (some .boolean) ∈ gm_U := gm_U_in (List.mem_of_getElem? (l := lw_tbl) (i := 1300) (by decide +kernel)) rfl
theorem gm_u1301 : Cond.methodLink RX0 41 yX0_joinParts ∈ gm_U := gm_U_in (List.mem_of_getElem? (l := lw_tbl) (i := 1301) (by decide +kernel)) rfl
theorem gm_u1303 : Cond.instanceMethod yX0_joinParts ∈ gm_U := gm_U_in (List.mem_of_getElem? (l := lw_tbl) (i := 1303) (by decide +kernel)) rfl
theorem gm_u1304 : Cond.code yX0_joinParts cX0_joinParts 5 none ∈ gm_U := gm_U_in (List.mem_of_getElem? (l := lw_tbl) (i := 1304) (by decide +kernel)) rfl
theorem gm_u1305 : Cond.methodLink RX0 45 yX0_weightOf ∈ gm_U := gm_U_in (List.mem_of_getElem? (l := lw_tbl) (i := 1305) (by decide +kernel)) rfl
theorem gm_u1306 : Cond.static yX0_weightOf ∈ gm_U := gm_U_in (List.mem_of_getElem? (l := lw_tbl) (i := 1306) (by decide +kernel)) rfl
theorem gm_u1307 : Cond.code yX0_weightOf cX0_weightOf 1 (some .int) ∈ gm_U := gm_U_in (List.mem_of_getElem? (l := lw_tbl) (i := 1307) (by decide +kernel)) rfl
theorem gm_u1308 : Cond.methodLink RX6 149 yX0_countPrimes ∈ gm_U := gm_U_in (List.mem_of_getElem? (l := lw_tbl) (i := 1308) (by decide +kernel)) rfl
theorem gm_u1309 : Cond.instanceMethod yX0_countPrimes ∈ gm_U := gm_U_in (List.mem_of_getElem? (l := lw_tbl) (i := 1309) (by decide +kernel)) rfl
theorem gm_u1310 : Cond.selects RX0 yX0_countPrimes yX0_countPrimes ∈ gm_U := gm_U_in (List.mem_of_getElem? (l := lw_tbl) (i := 1310) (by decide +kernel)) rfl
theorem gm_u1311 : Cond.code yX0_countPrimes cX0_countPrimes 3 (some .int) ∈ gm_U := gm_U_in (List.mem_of_getElem? (l := lw_tbl) (i := 1311) (by decide +kernel)) rfl
theorem gm_u1312 : Cond.methodLink RL 247 yL_primesByTrying ∈ gm_U := gm_U_in (List.mem_of_getElem? (l := lw_tbl) (i := 1312) (by decide +kernel)) rfl
theorem gm_u1313 : Cond.static yL_primesByTrying ∈ gm_U := gm_U_in (List.mem_of_getElem? (l := lw_tbl) (i := 1313) (by decide +kernel)) rfl
theorem gm_u1314 : Cond.codeWith yL_primesByTrying cL_primesByTrying 3 (some .int) [(0, 5, 6, 28)] ∈ gm_U := gm_U_in (List.mem_of_getElem? (l := lw_tbl) (i := 1314) (by decide +kernel)) rfl
theorem gm_u1315 : Cond.methodLink RL 83 yX6_primesByTrying ∈ gm_U := gm_U_in (List.mem_of_getElem? (l := lw_tbl) (i := 1315) (by decide +kernel)) rfl
theorem gm_u1316 : Cond.instanceMethod yX6_primesByTrying ∈ gm_U := gm_U_in (List.mem_of_getElem? (l := lw_tbl) (i := 1316) (by decide +kernel)) rfl
theorem gm_u1317 : Cond.selects RX6 yX6_primesByTrying yX6_primesByTrying ∈ gm_U := gm_U_in (List.mem_of_getElem? (l := lw_tbl) (i := 1317) (by decide +kernel)) rfl
theorem gm_u1318 : Cond.code yX6_primesByTrying cX6_primesByTrying 2 (some .int) ∈ gm_U := gm_U_in (List.mem_of_getElem? (l := lw_tbl) (i := 1318) (by decide +kernel)) rfl
theorem gm_u1319 : Cond.methodLink RX6 152 yX0_countByTrying ∈ gm_U := gm_U_in (List.mem_of_getElem? (l := lw_tbl) (i := 1319) (by decide +kernel)) rfl
theorem gm_u1320 : Cond.instanceMethod yX0_countByTrying ∈ gm_U := gm_U_in (List.mem_of_getElem? (l := lw_tbl) (i := 1320) (by decide +kernel)) rfl
theorem gm_u1321 : Cond.selects RX0 yX0_countByTrying yX0_countByTrying ∈ gm_U := gm_U_in (List.mem_of_getElem? (l := lw_tbl) (i := 1321) (by decide +kernel)) rfl
theorem gm_u1322 : Cond.code yX0_countByTrying cX0_countByTrying 4 (some .int) ∈ gm_U := gm_U_in (List.mem_of_getElem? (l := lw_tbl) (i := 1322) (by decide +kernel)) rfl
theorem gm_u1323 : Cond.methodLink RX0 48 yX0_isInside ∈ gm_U := gm_U_in (List.mem_of_getElem? (l := lw_tbl) (i := 1323) (by decide +kernel)) rfl
theorem gm_u1324 : Cond.static yX0_isInside ∈ gm_U := gm_U_in (List.mem_of_getElem? (l := lw_tbl) (i := 1324) (by decide +kernel)) rfl
theorem gm_u1325 : Cond.code yX0_isInside cX0_isInside 2 (some .boolean) ∈ gm_U := gm_U_in (List.mem_of_getElem? (l := lw_tbl) (i := 1325) (by decide +kernel)) rfl
theorem gm_u1326 : Cond.methodLink RX0 51 yX0_isInLarger ∈ gm_U := gm_U_in (List.mem_of_getElem? (l := lw_tbl) (i := 1326) (by decide +kernel)) rfl
theorem gm_u1328 : Cond.instanceMethod yX0_isInLarger ∈ gm_U := gm_U_in (List.mem_of_getElem? (l := lw_tbl) (i := 1328) (by decide +kernel)) rfl
theorem gm_u1329 : Cond.code yX0_isInLarger cX0_isInLarger 4 (some .boolean) ∈ gm_U := gm_U_in (List.mem_of_getElem? (l := lw_tbl) (i := 1329) (by decide +kernel)) rfl
theorem gm_u1330 : Cond.methodLink RL 249 yL_cube ∈ gm_U := gm_U_in (List.mem_of_getElem? (l := lw_tbl) (i := 1330) (by decide +kernel)) rfl
theorem gm_u1331 : Cond.static yL_cube ∈ gm_U := gm_U_in (List.mem_of_getElem? (l := lw_tbl) (i := 1331) (by decide +kernel)) rfl
theorem gm_u1332 : Cond.code yL_cube cL_cube 9 (some .int) ∈ gm_U := gm_U_in (List.mem_of_getElem? (l := lw_tbl) (i := 1332) (by decide +kernel)) rfl
theorem gm_u1333 : Cond.methodLink RL 253 yL_prime ∈ gm_U := gm_U_in (List.mem_of_getElem? (l := lw_tbl) (i := 1333) (by decide +kernel)) rfl
theorem gm_u1334 : Cond.static yL_prime ∈ gm_U := gm_U_in (List.mem_of_getElem? (l := lw_tbl) (i := 1334) (by decide +kernel)) rfl
theorem gm_u1335 : Cond.codeWith yL_prime cL_prime 5 (some .int) [(0, 7, 8, 28), (0, 7, 12, 50), (0, 7, 17, 14)] ∈ gm_U := gm_U_in (List.mem_of_getElem? (l := lw_tbl) (i := 1335) (by decide +kernel)) rfl
theorem gm_u1336 : Cond.methodLink RL 86 yX6_prime ∈ gm_U := gm_U_in (List.mem_of_getElem? (l := lw_tbl) (i := 1336) (by decide +kernel)) rfl
theorem gm_u1337 : Cond.instanceMethod yX6_prime ∈ gm_U := gm_U_in (List.mem_of_getElem? (l := lw_tbl) (i := 1337) (by decide +kernel)) rfl
theorem gm_u1338 : Cond.selects RX6 yX6_prime yX6_prime ∈ gm_U := gm_U_in (List.mem_of_getElem? (l := lw_tbl) (i := 1338) (by decide +kernel)) rfl
theorem gm_u1339 : Cond.code yX6_prime cX6_prime 5 (some .char) ∈ gm_U := gm_U_in (List.mem_of_getElem? (l := lw_tbl) (i := 1339) (by decide +kernel)) rfl
theorem gm_u1340 : Cond.methodLink RX6 155 yX0_primeAt ∈ gm_U := gm_U_in (List.mem_of_getElem? (l := lw_tbl) (i := 1340) (by decide +kernel)) rfl
theorem gm_u1341 : Cond.instanceMethod yX0_primeAt ∈ gm_U := gm_U_in (List.mem_of_getElem? (l := lw_tbl) (i := 1341) (by decide +kernel)) rfl
theorem gm_u1342 : Cond.selects RX0 yX0_primeAt yX0_primeAt ∈ gm_U := gm_U_in (List.mem_of_getElem? (l := lw_tbl) (i := 1342) (by decide +kernel)) rfl
theorem gm_u1343 : Cond.code yX0_primeAt cX0_primeAt 4 (some .int) ∈ gm_U := gm_U_in (List.mem_of_getElem? (l := lw_tbl) (i := 1343) (by decide +kernel)) rfl
theorem gm_u1345 : Cond.methodLink RX6 160 yX0_tells ∈ gm_U := gm_U_in (List.mem_of_getElem? (l := lw_tbl) (i := 1345) (by decide +kernel)) rfl
theorem gm_u1346 : Cond.static yX0_tells ∈ gm_U := gm_U_in (List.mem_of_getElem? (l := lw_tbl) (i := 1346) (by decide +kernel)) rfl
theorem gm_u1347 : Cond.code yX0_tells cX0_tells 3 (some .char) ∈ gm_U := gm_U_in (List.mem_of_getElem? (l := lw_tbl) (i := 1347) (by decide +kernel)) rfl
theorem gm_u1348 : Cond.methodLink RL 255 yJ6_bitCount_0f7a4 ∈ gm_U := gm_U_in (List.mem_of_getElem? (l := lw_tbl) (i := 1348) (by decide +kernel)) rfl
theorem gm_u1349 : Cond.methodLink RL 302 yL_proved ∈ gm_U := gm_U_in (List.mem_of_getElem? (l := lw_tbl) (i := 1349) (by decide +kernel)) rfl
theorem gm_u1350 : Cond.static yL_proved ∈ gm_U := gm_U_in (List.mem_of_getElem? (l := lw_tbl) (i := 1350) (by decide +kernel)) rfl
theorem gm_u1351 : Cond.code yL_proved cL_proved 9 (some .boolean) ∈ gm_U := gm_U_in (List.mem_of_getElem? (l := lw_tbl) (i := 1351) (by decide +kernel)) rfl
theorem gm_u1352 : Cond.methodLink RL 262 yL_modelsByTrying ∈ gm_U := gm_U_in (List.mem_of_getElem? (l := lw_tbl) (i := 1352) (by decide +kernel)) rfl
theorem gm_u1353 : Cond.static yL_modelsByTrying ∈ gm_U := gm_U_in (List.mem_of_getElem? (l := lw_tbl) (i := 1353) (by decide +kernel)) rfl
theorem gm_u1354 : Cond.codeWith yL_modelsByTrying cL_modelsByTrying 3 (some .long) [(0, 5, 6, 14)] ∈ gm_U := gm_U_in (List.mem_of_getElem? (l := lw_tbl) (i := 1354) (by decide +kernel)) rfl
theorem gm_u1355 : Cond.methodLink RL 130 yX6_modelsByTrying ∈ gm_U := gm_U_in (List.mem_of_getElem? (l := lw_tbl) (i := 1355) (by decide +kernel)) rfl
theorem gm_u1356 : Cond.instanceMethod yX6_modelsByTrying ∈ gm_U := gm_U_in (List.mem_of_getElem? (l := lw_tbl) (i := 1356) (by decide +kernel)) rfl
theorem gm_u1357 : Cond.selects RX6 yX6_modelsByTrying yX6_modelsByTrying ∈ gm_U := gm_U_in (List.mem_of_getElem? (l := lw_tbl) (i := 1357) (by decide +kernel)) rfl
theorem gm_u1358 : Cond.code yX6_modelsByTrying cX6_modelsByTrying 2 (some .long) ∈ gm_U := gm_U_in (List.mem_of_getElem? (l := lw_tbl) (i := 1358) (by decide +kernel)) rfl
theorem gm_u1359 : Cond.methodLink RX6 261 yX3_countModelsByTrying ∈ gm_U := gm_U_in (List.mem_of_getElem? (l := lw_tbl) (i := 1359) (by decide +kernel)) rfl
theorem gm_u1360 : Cond.instanceMethod yX3_countModelsByTrying ∈ gm_U := gm_U_in (List.mem_of_getElem? (l := lw_tbl) (i := 1360) (by decide +kernel)) rfl
theorem gm_u1361 : Cond.selects RX3 yX3_countModelsByTrying yX3_countModelsByTrying ∈ gm_U := gm_U_in (List.mem_of_getElem? (l := lw_tbl) (i := 1361) (by decide +kernel)) rfl
theorem gm_u1362 : Cond.code yX3_countModelsByTrying cX3_countModelsByTrying 8 (some .long) ∈ gm_U := gm_U_in (List.mem_of_getElem? (l := lw_tbl) (i := 1362) (by decide +kernel)) rfl
theorem gm_u1363 : Cond.methodLink RX3 75 yX3_occupiedBy ∈ gm_U := gm_U_in (List.mem_of_getElem? (l := lw_tbl) (i := 1363) (by decide +kernel)) rfl
theorem gm_u1364 : Cond.static yX3_occupiedBy ∈ gm_U := gm_U_in (List.mem_of_getElem? (l := lw_tbl) (i := 1364) (by decide +kernel)) rfl
theorem gm_u1365 : Cond.code yX3_occupiedBy cX3_occupiedBy 5 (some .int) ∈ gm_U := gm_U_in (List.mem_of_getElem? (l := lw_tbl) (i := 1365) (by decide +kernel)) rfl
theorem gm_u1366 : Cond.constantLong RX3 82 (15) ∈ gm_U := gm_U_in (List.mem_of_getElem? (l := lw_tbl) (i := 1366) (by decide +kernel)) rfl
theorem gm_u1367 : Cond.methodLink RX3 79 yX3_allHold ∈ gm_U := gm_U_in (List.mem_of_getElem? (l := lw_tbl) (i := 1367) (by decide +kernel)) rfl
theorem gm_u1369 : Cond.instanceMethod yX3_allHold ∈ gm_U := gm_U_in (List.mem_of_getElem? (l := lw_tbl) (i := 1369) (by decide +kernel)) rfl
theorem gm_u1370 : Cond.code yX3_allHold cX3_allHold 3 (some .boolean) ∈ gm_U := gm_U_in (List.mem_of_getElem? (l := lw_tbl) (i := 1370) (by decide +kernel)) rfl
theorem gm_u1371 : Cond.methodLink RL 264 yL_elementsByTrying ∈ gm_U := gm_U_in (List.mem_of_getElem? (l := lw_tbl) (i := 1371) (by decide +kernel)) rfl
theorem gm_u1372 : Cond.static yL_elementsByTrying ∈ gm_U := gm_U_in (List.mem_of_getElem? (l := lw_tbl) (i := 1372) (by decide +kernel)) rfl
theorem gm_u1373 : Cond.codeWith yL_elementsByTrying cL_elementsByTrying 2 (some .int) [(0, 4, 5, 16), (0, 4, 8, 50)] ∈ gm_U := gm_U_in (List.mem_of_getElem? (l := lw_tbl) (i := 1373) (by decide +kernel)) rfl
theorem gm_u1374 : Cond.methodLink RL 118 yX6_elementsByTrying ∈ gm_U := gm_U_in (List.mem_of_getElem? (l := lw_tbl) (i := 1374) (by decide +kernel)) rfl
theorem gm_u1375 : Cond.instanceMethod yX6_elementsByTrying ∈ gm_U := gm_U_in (List.mem_of_getElem? (l := lw_tbl) (i := 1375) (by decide +kernel)) rfl
theorem gm_u1376 : Cond.selects RX6 yX6_elementsByTrying yX6_elementsByTrying ∈ gm_U := gm_U_in (List.mem_of_getElem? (l := lw_tbl) (i := 1376) (by decide +kernel)) rfl
theorem gm_u1377 : Cond.code yX6_elementsByTrying cX6_elementsByTrying 1 (some .int) ∈ gm_U := gm_U_in (List.mem_of_getElem? (l := lw_tbl) (i := 1377) (by decide +kernel)) rfl
theorem gm_u1378 : Cond.methodLink RX6 245 yX2_fewestByTrying ∈ gm_U := gm_U_in (List.mem_of_getElem? (l := lw_tbl) (i := 1378) (by decide +kernel)) rfl
theorem gm_u1379 : Cond.instanceMethod yX2_fewestByTrying ∈ gm_U := gm_U_in (List.mem_of_getElem? (l := lw_tbl) (i := 1379) (by decide +kernel)) rfl
theorem gm_u1380 : Cond.selects RX2 yX2_fewestByTrying yX2_fewestByTrying ∈ gm_U := gm_U_in (List.mem_of_getElem? (l := lw_tbl) (i := 1380) (by decide +kernel)) rfl
theorem gm_u1381 : Cond.code yX2_fewestByTrying cX2_fewestByTrying 2 (some .int) ∈ gm_U := gm_U_in (List.mem_of_getElem? (l := lw_tbl) (i := 1381) (by decide +kernel)) rfl
theorem gm_u1382 : Cond.methodLink RX2 63 yX2_canMeet ∈ gm_U := gm_U_in (List.mem_of_getElem? (l := lw_tbl) (i := 1382) (by decide +kernel)) rfl
theorem gm_u1384 : Cond.instanceMethod yX2_canMeet ∈ gm_U := gm_U_in (List.mem_of_getElem? (l := lw_tbl) (i := 1384) (by decide +kernel)) rfl
theorem gm_u1385 : Cond.code yX2_canMeet cX2_canMeet 5 (some .boolean) ∈ gm_U := gm_U_in (List.mem_of_getElem? (l := lw_tbl) (i := 1385) (by decide +kernel)) rfl
theorem gm_u1394 : Cond.constantLong RL 271 (4096) ∈ gm_U := gm_U_in (List.mem_of_getElem? (l := lw_tbl) (i := 1394) (by decide +kernel)) rfl
