/-- all words of the tables that hold in every later state -/
def gA : List Cond := lw_tbl.filter goodWord
theorem gA_tbl {w : Cond} (h : w ∈ gA) : w ∈ lw_tbl := (List.mem_filter.mp h).1
theorem gA_g {w : Cond} (h : w ∈ gA) : goodWord w = true := (List.mem_filter.mp h).2
abbrev wsY (y : MethodName) (b : ByteArray) (mL : Nat) (ret : Option FieldType) : List Cond := Cond.code y b mL ret :: gA
theorem gA_good {y : MethodName} {b : ByteArray} {mL : Nat} {ret : Option FieldType} (h : Cond.code y b mL ret ∈ gA) : GoodIn gA (wsY y b mL ret) := fun w hw => by
  rcases List.mem_cons.mp hw with rfl | hw
  · exact ⟨h, good_of_word (gA_g h)⟩
  · exact ⟨hw, good_of_word (gA_g hw)⟩
theorem tb_0 {w : Cond} (i : Nat) (h : (k2_sels lw_privs)[i]? = some w) : w ∈ lw_tbl := List.mem_append_left _ (List.mem_of_getElem? h)
theorem tb_1 {w : Cond} (i : Nat) (h : tables_1_1[i]? = some w) : w ∈ lw_tbl := List.mem_append_right _ (List.mem_append_left _ (List.mem_of_getElem? h))
theorem tb_2 {w : Cond} (i : Nat) (h : tables_1_2[i]? = some w) : w ∈ lw_tbl := List.mem_append_right _ (List.mem_append_right _ (List.mem_append_left _ (List.mem_of_getElem? h)))
theorem tb_3 {w : Cond} (i : Nat) (h : tables_1_3[i]? = some w) : w ∈ lw_tbl := List.mem_append_right _ (List.mem_append_right _ (List.mem_append_right _ (List.mem_of_getElem? h)))
theorem gA_of {w : Cond} (h : w ∈ lw_tbl) (hg : goodWord w = true) : w ∈ gA := List.mem_filter.mpr ⟨h, hg⟩
set_option maxRecDepth 8000 in
theorem g_0 : Cond.selects "java/lang/Throwable" ⟨"java/lang/Throwable", "fillInStackTrace", "(I)Ljava/lang/Throwable;"⟩ ⟨"java/lang/Throwable", "fillInStackTrace", "(I)Ljava/lang/Throwable;"⟩ ∈ gA := gA_of (tb_0 0 rfl) rfl
set_option maxRecDepth 8000 in
theorem g_1 : Cond.selects RX0 yX0_reachFrom yX0_reachFrom ∈ gA := gA_of (tb_0 1 rfl) rfl
set_option maxRecDepth 8000 in
theorem g_2 : Cond.selects RX0 yX0_stepOver yX0_stepOver ∈ gA := gA_of (tb_0 2 rfl) rfl
set_option maxRecDepth 8000 in
theorem g_3 : Cond.selects RX1 yX1_countHeldBy yX1_countHeldBy ∈ gA := gA_of (tb_0 3 rfl) rfl
set_option maxRecDepth 8000 in
theorem g_4 : Cond.selects RX2 yX2_tellSky yX2_tellSky ∈ gA := gA_of (tb_0 4 rfl) rfl
set_option maxRecDepth 8000 in
theorem g_5 : Cond.selects RX1 yX1_fade yX1_fade ∈ gA := gA_of (tb_0 5 rfl) rfl
set_option maxRecDepth 8000 in
theorem g_6 : Cond.selects RX1 yX1_endSpell yX1_endSpell ∈ gA := gA_of (tb_0 6 rfl) rfl
set_option maxRecDepth 8000 in
theorem g_7 : Cond.selects RX1 yX1_dropLoose yX1_dropLoose ∈ gA := gA_of (tb_0 7 rfl) rfl
set_option maxRecDepth 8000 in
theorem g_8 : Cond.selects RX1 yX1_tearHoldsFrom yX1_tearHoldsFrom ∈ gA := gA_of (tb_0 8 rfl) rfl
set_option maxRecDepth 8000 in
theorem g_9 : Cond.selects RX1 yX1_measure yX1_measure ∈ gA := gA_of (tb_0 9 rfl) rfl
set_option maxRecDepth 8000 in
theorem g_10 : Cond.selects RX1 yX1_bear yX1_bear ∈ gA := gA_of (tb_0 10 rfl) rfl
set_option maxRecDepth 8000 in
theorem g_11 : Cond.selects RX1 yX1_tearOverpulled yX1_tearOverpulled ∈ gA := gA_of (tb_0 11 rfl) rfl
set_option maxRecDepth 8000 in
theorem g_12 : Cond.selects RX1 yX1_endOverloaded yX1_endOverloaded ∈ gA := gA_of (tb_0 12 rfl) rfl
set_option maxRecDepth 8000 in
theorem g_13 : Cond.initialized RL ∈ gA := gA_of (tb_1 0 rfl) rfl
set_option maxRecDepth 8000 in
theorem g_14 : Cond.initialized RX2 ∈ gA := gA_of (tb_1 1 rfl) rfl
set_option maxRecDepth 8000 in
theorem g_15 : Cond.initialized RX1 ∈ gA := gA_of (tb_1 2 rfl) rfl
set_option maxRecDepth 8000 in
theorem g_16 : Cond.initialized RX0 ∈ gA := gA_of (tb_1 3 rfl) rfl
set_option maxRecDepth 8000 in
theorem g_17 : Cond.initialized RX3 ∈ gA := gA_of (tb_1 4 rfl) rfl
set_option maxRecDepth 8000 in
theorem g_18 : Cond.initialized RX4 ∈ gA := gA_of (tb_1 5 rfl) rfl
set_option maxRecDepth 8000 in
theorem g_19 : Cond.initialized "java/lang/Throwable" ∈ gA := gA_of (tb_1 6 rfl) rfl
set_option maxRecDepth 8000 in
theorem g_20 : Cond.initialized "java/lang/Exception" ∈ gA := gA_of (tb_1 7 rfl) rfl
set_option maxRecDepth 8000 in
theorem g_21 : Cond.initialized "java/lang/RuntimeException" ∈ gA := gA_of (tb_1 8 rfl) rfl
set_option maxRecDepth 8000 in
theorem g_22 : Cond.initialized "java/lang/IllegalArgumentException" ∈ gA := gA_of (tb_1 9 rfl) rfl
set_option maxRecDepth 8000 in
theorem g_23 : Cond.initialized "java/lang/IllegalStateException" ∈ gA := gA_of (tb_1 10 rfl) rfl
set_option maxRecDepth 8000 in
theorem g_24 : Cond.initialized "java/lang/Math" ∈ gA := gA_of (tb_1 11 rfl) rfl
set_option maxRecDepth 8000 in
theorem g_25 : Cond.initialized "java/lang/IndexOutOfBoundsException" ∈ gA := gA_of (tb_1 12 rfl) rfl
set_option maxRecDepth 8000 in
theorem g_26 : Cond.classLink RL 26 RX2 ∈ gA := gA_of (tb_1 13 rfl) rfl
set_option maxRecDepth 8000 in
theorem g_27 : Cond.instantiable RX2 3 ∈ gA := gA_of (tb_1 14 rfl) rfl
set_option maxRecDepth 8000 in
theorem g_28 : Cond.methodLink RL 86 yX2_init ∈ gA := gA_of (tb_1 15 rfl) rfl
set_option maxRecDepth 8000 in
theorem g_29 : Cond.instanceMethod yX2_init ∈ gA := gA_of (tb_1 16 rfl) rfl
set_option maxRecDepth 8000 in
theorem g_30 : Cond.code yX2_init cX2_init 1 none ∈ gA := gA_of (tb_1 17 rfl) rfl
set_option maxRecDepth 8000 in
theorem g_31 : Cond.methodLink RX2 1 ⟨"java/lang/Object", "<init>", "()V"⟩ ∈ gA := gA_of (tb_1 18 rfl) rfl
set_option maxRecDepth 8000 in
theorem g_32 : Cond.instanceMethod ⟨"java/lang/Object", "<init>", "()V"⟩ ∈ gA := gA_of (tb_1 19 rfl) rfl
set_option maxRecDepth 8000 in
theorem g_33 : Cond.code ⟨"java/lang/Object", "<init>", "()V"⟩ object_method_1_code 1 none ∈ gA := gA_of (tb_1 20 rfl) rfl
set_option maxRecDepth 8000 in
theorem g_34 : Cond.classLink RX2 7 RX1 ∈ gA := gA_of (tb_1 21 rfl) rfl
set_option maxRecDepth 8000 in
theorem g_35 : Cond.instantiable RX1 13 ∈ gA := gA_of (tb_1 22 rfl) rfl
set_option maxRecDepth 8000 in
theorem t_36 : Cond.methodLinkNest RX2 9 yX1_init RX2 ∈ lw_tbl := tb_1 23 rfl
set_option maxRecDepth 8000 in
theorem g_37 : Cond.instanceMethod yX1_init ∈ gA := gA_of (tb_1 24 rfl) rfl
set_option maxRecDepth 8000 in
theorem g_38 : Cond.code yX1_init cX1_init 1 none ∈ gA := gA_of (tb_1 25 rfl) rfl
set_option maxRecDepth 8000 in
theorem g_39 : Cond.methodLink RX1 3 ⟨"java/lang/Object", "<init>", "()V"⟩ ∈ gA := gA_of (tb_1 26 rfl) rfl
set_option maxRecDepth 8000 in
theorem g_40 : Cond.fieldLink RX1 9 RX1 "weight" "[I" ∈ gA := gA_of (tb_1 27 rfl) rfl
set_option maxRecDepth 8000 in
theorem g_41 : Cond.fieldLink RX1 15 RX1 "strength" "[I" ∈ gA := gA_of (tb_1 28 rfl) rfl
set_option maxRecDepth 8000 in
theorem g_42 : Cond.fieldLink RX1 18 RX1 "prop" "[I" ∈ gA := gA_of (tb_1 29 rfl) rfl
set_option maxRecDepth 8000 in
theorem g_43 : Cond.fieldLink RX1 21 RX1 "power" "[I" ∈ gA := gA_of (tb_1 30 rfl) rfl
set_option maxRecDepth 8000 in
theorem t_44 : Cond.fieldLinkNest RX2 100 RX1 "power" "[I" RX2 ∈ lw_tbl := tb_1 31 rfl
set_option maxRecDepth 8000 in
theorem g_45 : Cond.fieldLink RX1 24 RX1 "firstHold" "[I" ∈ gA := gA_of (tb_1 32 rfl) rfl
set_option maxRecDepth 8000 in
theorem g_46 : Cond.fieldLink RX1 27 RX1 "secondHold" "[I" ∈ gA := gA_of (tb_1 33 rfl) rfl
set_option maxRecDepth 8000 in
theorem g_47 : Cond.fieldLink RX1 30 RX1 "hangs" "[Z" ∈ gA := gA_of (tb_1 34 rfl) rfl
set_option maxRecDepth 8000 in
theorem g_48 : Cond.fieldLink RX1 34 RX1 "load" "[I" ∈ gA := gA_of (tb_1 35 rfl) rfl
set_option maxRecDepth 8000 in
theorem t_49 : Cond.fieldLinkNest RX2 94 RX1 "load" "[I" RX2 ∈ lw_tbl := tb_1 36 rfl
set_option maxRecDepth 8000 in
theorem g_50 : Cond.fieldLink RX1 37 RX1 "pull" "[I" ∈ gA := gA_of (tb_1 37 rfl) rfl
set_option maxRecDepth 8000 in
theorem g_51 : Cond.fieldLink RX1 40 RX1 "hung" "I" ∈ gA := gA_of (tb_1 38 rfl) rfl
set_option maxRecDepth 8000 in
theorem t_52 : Cond.fieldLinkNest RX2 172 RX1 "hung" "I" RX2 ∈ lw_tbl := tb_1 39 rfl
set_option maxRecDepth 8000 in
theorem t_53 : Cond.fieldLinkNest RX2 81 RX1 "hanging" "I" RX2 ∈ lw_tbl := tb_1 40 rfl
set_option maxRecDepth 8000 in
theorem g_54 : Cond.fieldLink RX1 56 RX1 "hanging" "I" ∈ gA := gA_of (tb_1 41 rfl) rfl
set_option maxRecDepth 8000 in
theorem g_55 : Cond.fieldLink RX1 63 RX1 "day" "I" ∈ gA := gA_of (tb_1 42 rfl) rfl
set_option maxRecDepth 8000 in
theorem t_56 : Cond.fieldLinkNest RX2 196 RX1 "day" "I" RX2 ∈ lw_tbl := tb_1 43 rfl
set_option maxRecDepth 8000 in
theorem g_57 : Cond.fieldLink RX1 59 RX1 "stale" "Z" ∈ gA := gA_of (tb_1 44 rfl) rfl
set_option maxRecDepth 8000 in
theorem g_58 : Cond.laysFinal RX1 RX1 "weight" "[I" ∈ gA := gA_of (tb_1 45 rfl) rfl
set_option maxRecDepth 8000 in
theorem g_59 : Cond.soleField RX1 "weight" ∈ gA := gA_of (tb_1 46 rfl) rfl
set_option maxRecDepth 8000 in
theorem g_60 : Cond.laysFinal RX1 RX1 "strength" "[I" ∈ gA := gA_of (tb_1 47 rfl) rfl
set_option maxRecDepth 8000 in
theorem g_61 : Cond.soleField RX1 "strength" ∈ gA := gA_of (tb_1 48 rfl) rfl
set_option maxRecDepth 8000 in
theorem g_62 : Cond.laysFinal RX1 RX1 "prop" "[I" ∈ gA := gA_of (tb_1 49 rfl) rfl
set_option maxRecDepth 8000 in
theorem g_63 : Cond.soleField RX1 "prop" ∈ gA := gA_of (tb_1 50 rfl) rfl
set_option maxRecDepth 8000 in
theorem g_64 : Cond.laysFinal RX1 RX1 "power" "[I" ∈ gA := gA_of (tb_1 51 rfl) rfl
set_option maxRecDepth 8000 in
theorem g_65 : Cond.soleField RX1 "power" ∈ gA := gA_of (tb_1 52 rfl) rfl
set_option maxRecDepth 8000 in
theorem g_66 : Cond.laysFinal RX1 RX1 "firstHold" "[I" ∈ gA := gA_of (tb_1 53 rfl) rfl
set_option maxRecDepth 8000 in
theorem g_67 : Cond.soleField RX1 "firstHold" ∈ gA := gA_of (tb_1 54 rfl) rfl
set_option maxRecDepth 8000 in
theorem g_68 : Cond.laysFinal RX1 RX1 "secondHold" "[I" ∈ gA := gA_of (tb_1 55 rfl) rfl
set_option maxRecDepth 8000 in
theorem g_69 : Cond.soleField RX1 "secondHold" ∈ gA := gA_of (tb_1 56 rfl) rfl
set_option maxRecDepth 8000 in
theorem g_70 : Cond.laysFinal RX1 RX1 "hangs" "[Z" ∈ gA := gA_of (tb_1 57 rfl) rfl
set_option maxRecDepth 8000 in
theorem g_71 : Cond.soleField RX1 "hangs" ∈ gA := gA_of (tb_1 58 rfl) rfl
set_option maxRecDepth 8000 in
theorem g_72 : Cond.laysFinal RX1 RX1 "load" "[I" ∈ gA := gA_of (tb_1 59 rfl) rfl
set_option maxRecDepth 8000 in
theorem g_73 : Cond.soleField RX1 "load" ∈ gA := gA_of (tb_1 60 rfl) rfl
set_option maxRecDepth 8000 in
theorem g_74 : Cond.laysFinal RX1 RX1 "pull" "[I" ∈ gA := gA_of (tb_1 61 rfl) rfl
set_option maxRecDepth 8000 in
theorem g_75 : Cond.soleField RX1 "pull" ∈ gA := gA_of (tb_1 62 rfl) rfl
set_option maxRecDepth 8000 in
theorem g_76 : Cond.lays RX1 RX1 "hung" "I" ∈ gA := gA_of (tb_1 63 rfl) rfl
set_option maxRecDepth 8000 in
theorem g_77 : Cond.soleField RX1 "hung" ∈ gA := gA_of (tb_1 64 rfl) rfl
set_option maxRecDepth 8000 in
theorem g_78 : Cond.lays RX1 RX1 "hanging" "I" ∈ gA := gA_of (tb_1 65 rfl) rfl
set_option maxRecDepth 8000 in
theorem g_79 : Cond.soleField RX1 "hanging" ∈ gA := gA_of (tb_1 66 rfl) rfl
set_option maxRecDepth 8000 in
theorem g_80 : Cond.lays RX1 RX1 "day" "I" ∈ gA := gA_of (tb_1 67 rfl) rfl
set_option maxRecDepth 8000 in
theorem g_81 : Cond.soleField RX1 "day" ∈ gA := gA_of (tb_1 68 rfl) rfl
set_option maxRecDepth 8000 in
theorem g_82 : Cond.lays RX1 RX1 "stale" "Z" ∈ gA := gA_of (tb_1 69 rfl) rfl
set_option maxRecDepth 8000 in
theorem g_83 : Cond.soleField RX1 "stale" ∈ gA := gA_of (tb_1 70 rfl) rfl
set_option maxRecDepth 8000 in
theorem g_84 : Cond.superclass RX1 "java/lang/Object" ∈ gA := gA_of (tb_1 71 rfl) rfl
set_option maxRecDepth 8000 in
theorem g_85 : Cond.arrayClass .int ∈ gA := gA_of (tb_1 72 rfl) rfl
set_option maxRecDepth 8000 in
theorem g_86 : Cond.arrayClass .boolean ∈ gA := gA_of (tb_1 73 rfl) rfl
set_option maxRecDepth 8000 in
theorem g_87 : Cond.classLink RX2 19 RX0 ∈ gA := gA_of (tb_1 74 rfl) rfl
set_option maxRecDepth 8000 in
theorem g_88 : Cond.instantiable RX0 4 ∈ gA := gA_of (tb_1 75 rfl) rfl
set_option maxRecDepth 8000 in
theorem t_89 : Cond.methodLinkNest RX2 21 yX0_init RX2 ∈ lw_tbl := tb_1 76 rfl
set_option maxRecDepth 8000 in
theorem g_90 : Cond.instanceMethod yX0_init ∈ gA := gA_of (tb_1 77 rfl) rfl
set_option maxRecDepth 8000 in
theorem g_91 : Cond.code yX0_init cX0_init 1 none ∈ gA := gA_of (tb_1 78 rfl) rfl
set_option maxRecDepth 8000 in
theorem g_92 : Cond.methodLink RX0 3 ⟨"java/lang/Object", "<init>", "()V"⟩ ∈ gA := gA_of (tb_1 79 rfl) rfl
set_option maxRecDepth 8000 in
theorem g_93 : Cond.fieldLink RX0 9 RX0 "firstEnd" "[I" ∈ gA := gA_of (tb_1 80 rfl) rfl
set_option maxRecDepth 8000 in
theorem g_94 : Cond.fieldLink RX0 15 RX0 "secondEnd" "[I" ∈ gA := gA_of (tb_1 81 rfl) rfl
set_option maxRecDepth 8000 in
theorem g_95 : Cond.fieldLink RX0 18 RX0 "distance" "[I" ∈ gA := gA_of (tb_1 82 rfl) rfl
set_option maxRecDepth 8000 in
theorem g_96 : Cond.fieldLink RX0 21 RX0 "built" "I" ∈ gA := gA_of (tb_1 83 rfl) rfl
set_option maxRecDepth 8000 in
theorem g_97 : Cond.laysFinal RX0 RX0 "firstEnd" "[I" ∈ gA := gA_of (tb_1 84 rfl) rfl
set_option maxRecDepth 8000 in
theorem g_98 : Cond.soleField RX0 "firstEnd" ∈ gA := gA_of (tb_1 85 rfl) rfl
set_option maxRecDepth 8000 in
theorem g_99 : Cond.laysFinal RX0 RX0 "secondEnd" "[I" ∈ gA := gA_of (tb_1 86 rfl) rfl
set_option maxRecDepth 8000 in
theorem g_100 : Cond.soleField RX0 "secondEnd" ∈ gA := gA_of (tb_1 87 rfl) rfl
set_option maxRecDepth 8000 in
theorem g_101 : Cond.laysFinal RX0 RX0 "distance" "[I" ∈ gA := gA_of (tb_1 88 rfl) rfl
set_option maxRecDepth 8000 in
theorem g_102 : Cond.soleField RX0 "distance" ∈ gA := gA_of (tb_1 89 rfl) rfl
set_option maxRecDepth 8000 in
theorem g_103 : Cond.lays RX0 RX0 "built" "I" ∈ gA := gA_of (tb_1 90 rfl) rfl
set_option maxRecDepth 8000 in
theorem g_104 : Cond.soleField RX0 "built" ∈ gA := gA_of (tb_1 91 rfl) rfl
set_option maxRecDepth 8000 in
theorem g_105 : Cond.superclass RX0 "java/lang/Object" ∈ gA := gA_of (tb_1 92 rfl) rfl
set_option maxRecDepth 8000 in
theorem g_106 : Cond.fieldLink RX2 10 RX2 "sky" "LTowerDown$Stones;" ∈ gA := gA_of (tb_1 93 rfl) rfl
set_option maxRecDepth 8000 in
theorem g_107 : Cond.fieldLink RX2 16 RX2 "trial" "LTowerDown$Stones;" ∈ gA := gA_of (tb_1 94 rfl) rfl
set_option maxRecDepth 8000 in
theorem g_108 : Cond.fieldLink RX2 22 RX2 "stairs" "LTowerDown$Stairs;" ∈ gA := gA_of (tb_1 95 rfl) rfl
set_option maxRecDepth 8000 in
theorem g_109 : Cond.laysFinal RX2 RX2 "sky" "LTowerDown$Stones;" ∈ gA := gA_of (tb_1 96 rfl) rfl
set_option maxRecDepth 8000 in
theorem g_110 : Cond.soleField RX2 "sky" ∈ gA := gA_of (tb_1 97 rfl) rfl
set_option maxRecDepth 8000 in
theorem g_111 : Cond.laysFinal RX2 RX2 "trial" "LTowerDown$Stones;" ∈ gA := gA_of (tb_1 98 rfl) rfl
set_option maxRecDepth 8000 in
theorem g_112 : Cond.soleField RX2 "trial" ∈ gA := gA_of (tb_1 99 rfl) rfl
set_option maxRecDepth 8000 in
theorem g_113 : Cond.laysFinal RX2 RX2 "stairs" "LTowerDown$Stairs;" ∈ gA := gA_of (tb_1 100 rfl) rfl
set_option maxRecDepth 8000 in
theorem g_114 : Cond.soleField RX2 "stairs" ∈ gA := gA_of (tb_1 101 rfl) rfl
set_option maxRecDepth 8000 in
theorem g_115 : Cond.superclass RX2 "java/lang/Object" ∈ gA := gA_of (tb_1 102 rfl) rfl
set_option maxRecDepth 8000 in
theorem g_116 : Cond.methodLink RL 120 yX2_joins ∈ gA := gA_of (tb_1 103 rfl) rfl
set_option maxRecDepth 8000 in
theorem g_117 : Cond.instanceMethod yX2_joins ∈ gA := gA_of (tb_1 104 rfl) rfl
set_option maxRecDepth 8000 in
theorem g_118 : Cond.selects RX2 yX2_joins yX2_joins ∈ gA := gA_of (tb_1 105 rfl) rfl
set_option maxRecDepth 8000 in
theorem g_119 : Cond.code yX2_joins cX2_joins 3 (some .int) ∈ gA := gA_of (tb_1 106 rfl) rfl
set_option maxRecDepth 8000 in
theorem g_120 : Cond.methodLink RX2 112 yX0_has ∈ gA := gA_of (tb_1 107 rfl) rfl
set_option maxRecDepth 8000 in
theorem g_121 : Cond.instanceMethod yX0_has ∈ gA := gA_of (tb_1 108 rfl) rfl
set_option maxRecDepth 8000 in
theorem g_122 : Cond.selects RX0 yX0_has yX0_has ∈ gA := gA_of (tb_1 109 rfl) rfl
set_option maxRecDepth 8000 in
theorem g_123 : Cond.code yX0_has cX0_has 2 (some .boolean) ∈ gA := gA_of (tb_1 110 rfl) rfl
set_option maxRecDepth 8000 in
theorem g_124 : Cond.methodLink RX2 30 yX2_isWithin ∈ gA := gA_of (tb_1 111 rfl) rfl
set_option maxRecDepth 8000 in
theorem g_125 : Cond.static yX2_isWithin ∈ gA := gA_of (tb_1 112 rfl) rfl
set_option maxRecDepth 8000 in
theorem g_126 : Cond.code yX2_isWithin cX2_isWithin 3 (some .boolean) ∈ gA := gA_of (tb_1 113 rfl) rfl
set_option maxRecDepth 8000 in
theorem g_127 : Cond.classLink RX2 63 "java/lang/IndexOutOfBoundsException" ∈ gA := gA_of (tb_1 114 rfl) rfl
set_option maxRecDepth 8000 in
theorem g_128 : Cond.instantiable "java/lang/IndexOutOfBoundsException" 6 ∈ gA := gA_of (tb_1 115 rfl) rfl
set_option maxRecDepth 8000 in
theorem t_129 : Cond.castable "java/lang/IndexOutOfBoundsException" "java/lang/IndexOutOfBoundsException" ∈ lw_tbl := tb_1 116 rfl
set_option maxRecDepth 8000 in
theorem t_130 : Cond.declares ⟨"java/lang/RuntimeException", "<init>", "()V"⟩ ∈ lw_tbl := tb_1 117 rfl
set_option maxRecDepth 8000 in
theorem t_131 : Cond.declares ⟨"java/lang/RuntimeException", "<init>", "(Ljava/lang/String;)V"⟩ ∈ lw_tbl := tb_1 118 rfl
set_option maxRecDepth 8000 in
theorem t_132 : Cond.declares ⟨"java/lang/Exception", "<init>", "()V"⟩ ∈ lw_tbl := tb_1 119 rfl
set_option maxRecDepth 8000 in
theorem t_133 : Cond.declares ⟨"java/lang/Exception", "<init>", "(Ljava/lang/String;)V"⟩ ∈ lw_tbl := tb_1 120 rfl
set_option maxRecDepth 8000 in
theorem t_134 : Cond.declares ⟨"java/lang/Throwable", "<init>", "()V"⟩ ∈ lw_tbl := tb_1 121 rfl
set_option maxRecDepth 8000 in
theorem t_135 : Cond.declares ⟨"java/lang/Throwable", "<init>", "(Ljava/lang/String;)V"⟩ ∈ lw_tbl := tb_1 122 rfl
set_option maxRecDepth 8000 in
theorem g_136 : Cond.selects "java/lang/IndexOutOfBoundsException" ⟨"java/lang/Throwable", "fillInStackTrace", "(I)Ljava/lang/Throwable;"⟩ ⟨"java/lang/Throwable", "fillInStackTrace", "(I)Ljava/lang/Throwable;"⟩ ∈ gA := gA_of (tb_1 123 rfl) rfl
set_option maxRecDepth 8000 in
theorem g_137 : Cond.selects "java/lang/IndexOutOfBoundsException" ⟨"java/lang/Throwable", "fillInStackTrace", "()Ljava/lang/Throwable;"⟩ ⟨"java/lang/Throwable", "fillInStackTrace", "()Ljava/lang/Throwable;"⟩ ∈ gA := gA_of (tb_1 124 rfl) rfl
set_option maxRecDepth 8000 in
theorem g_138 : Cond.lays "java/lang/IndexOutOfBoundsException" "java/lang/Throwable" "cause" "Ljava/lang/Throwable;" ∈ gA := gA_of (tb_1 125 rfl) rfl
set_option maxRecDepth 8000 in
theorem g_139 : Cond.lays "java/lang/Throwable" "java/lang/Throwable" "cause" "Ljava/lang/Throwable;" ∈ gA := gA_of (tb_1 126 rfl) rfl
set_option maxRecDepth 8000 in
theorem g_140 : Cond.lays "java/lang/IndexOutOfBoundsException" "java/lang/Throwable" "stackTrace" "[Ljava/lang/StackTraceElement;" ∈ gA := gA_of (tb_1 127 rfl) rfl
set_option maxRecDepth 8000 in
theorem g_141 : Cond.lays "java/lang/Throwable" "java/lang/Throwable" "stackTrace" "[Ljava/lang/StackTraceElement;" ∈ gA := gA_of (tb_1 128 rfl) rfl
set_option maxRecDepth 8000 in
theorem g_142 : Cond.lays "java/lang/IndexOutOfBoundsException" "java/lang/Throwable" "suppressedExceptions" "Ljava/util/List;" ∈ gA := gA_of (tb_1 129 rfl) rfl
set_option maxRecDepth 8000 in
theorem g_143 : Cond.lays "java/lang/Throwable" "java/lang/Throwable" "suppressedExceptions" "Ljava/util/List;" ∈ gA := gA_of (tb_1 130 rfl) rfl
set_option maxRecDepth 8000 in
theorem g_144 : Cond.lays "java/lang/IndexOutOfBoundsException" "java/lang/Throwable" "detailMessage" "Ljava/lang/String;" ∈ gA := gA_of (tb_1 131 rfl) rfl
set_option maxRecDepth 8000 in
theorem g_145 : Cond.lays "java/lang/Throwable" "java/lang/Throwable" "detailMessage" "Ljava/lang/String;" ∈ gA := gA_of (tb_1 132 rfl) rfl
set_option maxRecDepth 8000 in
theorem g_146 : Cond.lays "java/lang/IndexOutOfBoundsException" "java/lang/Throwable" "backtrace" "Ljava/lang/Object;" ∈ gA := gA_of (tb_1 133 rfl) rfl
set_option maxRecDepth 8000 in
theorem g_147 : Cond.lays "java/lang/Throwable" "java/lang/Throwable" "backtrace" "Ljava/lang/Object;" ∈ gA := gA_of (tb_1 134 rfl) rfl
set_option maxRecDepth 8000 in
theorem g_148 : Cond.fieldLink "java/lang/Throwable" 198 "java/lang/Throwable" "backtrace" "Ljava/lang/Object;" ∈ gA := gA_of (tb_1 135 rfl) rfl
set_option maxRecDepth 8000 in
theorem g_149 : Cond.superclass "java/lang/Throwable" "java/lang/Object" ∈ gA := gA_of (tb_1 136 rfl) rfl
set_option maxRecDepth 8000 in
theorem g_150 : Cond.instanceMethod ⟨"java/lang/Throwable", "<init>", "()V"⟩ ∈ gA := gA_of (tb_1 137 rfl) rfl
set_option maxRecDepth 8000 in
theorem g_151 : Cond.code ⟨"java/lang/Throwable", "<init>", "()V"⟩ prog_15_method_1_code 1 none ∈ gA := gA_of (tb_1 138 rfl) rfl
set_option maxRecDepth 8000 in
theorem g_152 : Cond.methodLink "java/lang/Throwable" 1 ⟨"java/lang/Object", "<init>", "()V"⟩ ∈ gA := gA_of (tb_1 139 rfl) rfl
set_option maxRecDepth 8000 in
theorem g_153 : Cond.fieldLink "java/lang/Throwable" 13 "java/lang/Throwable" "UNASSIGNED_STACK" "[Ljava/lang/StackTraceElement;" ∈ gA := gA_of (tb_1 140 rfl) rfl
set_option maxRecDepth 8000 in
theorem t_154 : Cond.laysStatic "java/lang/Throwable" "UNASSIGNED_STACK" "[Ljava/lang/StackTraceElement;" ∈ lw_tbl := tb_1 141 rfl
set_option maxRecDepth 8000 in
theorem g_155 : Cond.fieldLink "java/lang/Throwable" 20 "java/lang/Throwable" "SUPPRESSED_SENTINEL" "Ljava/util/List;" ∈ gA := gA_of (tb_1 142 rfl) rfl
set_option maxRecDepth 8000 in
theorem t_156 : Cond.laysStatic "java/lang/Throwable" "SUPPRESSED_SENTINEL" "Ljava/util/List;" ∈ lw_tbl := tb_1 143 rfl
set_option maxRecDepth 8000 in
theorem g_157 : Cond.methodLink "java/lang/Throwable" 27 ⟨"java/lang/Throwable", "fillInStackTrace", "()Ljava/lang/Throwable;"⟩ ∈ gA := gA_of (tb_1 144 rfl) rfl
set_option maxRecDepth 8000 in
theorem g_158 : Cond.instanceMethod ⟨"java/lang/Throwable", "fillInStackTrace", "()Ljava/lang/Throwable;"⟩ ∈ gA := gA_of (tb_1 145 rfl) rfl
set_option maxRecDepth 8000 in
theorem g_159 : Cond.sameMethod "java/lang/Throwable" "java/lang/Throwable" "fillInStackTrace" "()Ljava/lang/Throwable;" ∈ gA := gA_of (tb_1 146 rfl) rfl
set_option maxRecDepth 8000 in
theorem g_160 : Cond.selects "java/lang/IllegalArgumentException" ⟨"java/lang/Throwable", "fillInStackTrace", "()Ljava/lang/Throwable;"⟩ ⟨"java/lang/Throwable", "fillInStackTrace", "()Ljava/lang/Throwable;"⟩ ∈ gA := gA_of (tb_1 147 rfl) rfl
set_option maxRecDepth 8000 in
theorem g_161 : Cond.selects "java/lang/IllegalStateException" ⟨"java/lang/Throwable", "fillInStackTrace", "()Ljava/lang/Throwable;"⟩ ⟨"java/lang/Throwable", "fillInStackTrace", "()Ljava/lang/Throwable;"⟩ ∈ gA := gA_of (tb_1 148 rfl) rfl
set_option maxRecDepth 8000 in
theorem g_162 : Cond.codeSync ⟨"java/lang/Throwable", "fillInStackTrace", "()Ljava/lang/Throwable;"⟩ prog_15_method_18_code 1 (Option.some (.object "java/lang/Throwable")) ∈ gA := gA_of (tb_1 149 rfl) rfl
set_option maxRecDepth 8000 in
theorem g_163 : Cond.methodLink "java/lang/Throwable" 202 ⟨"java/lang/Throwable", "fillInStackTrace", "(I)Ljava/lang/Throwable;"⟩ ∈ gA := gA_of (tb_1 150 rfl) rfl
set_option maxRecDepth 8000 in
theorem t_164 : Cond.privateMethod ⟨"java/lang/Throwable", "fillInStackTrace", "(I)Ljava/lang/Throwable;"⟩ ∈ lw_tbl := tb_1 151 rfl
set_option maxRecDepth 8000 in
theorem g_165 : Cond.instanceMethod ⟨"java/lang/Throwable", "fillInStackTrace", "(I)Ljava/lang/Throwable;"⟩ ∈ gA := gA_of (tb_1 152 rfl) rfl
set_option maxRecDepth 8000 in
theorem g_166 : Cond.instantiable "java/lang/Throwable" 6 ∈ gA := gA_of (tb_1 153 rfl) rfl
set_option maxRecDepth 8000 in
theorem g_167 : Cond.native ⟨"java/lang/Throwable", "fillInStackTrace", "(I)Ljava/lang/Throwable;"⟩ ∈ gA := gA_of (tb_1 154 rfl) rfl
set_option maxRecDepth 8000 in
theorem t_168 : Cond.stringRef RX2 124 "no such stair, or nothing to tell" ∈ lw_tbl := tb_1 155 rfl
set_option maxRecDepth 8000 in
theorem g_169 : Cond.methodLink RX2 67 ⟨"java/lang/IndexOutOfBoundsException", "<init>", "(Ljava/lang/String;)V"⟩ ∈ gA := gA_of (tb_1 156 rfl) rfl
set_option maxRecDepth 8000 in
theorem g_170 : Cond.instanceMethod ⟨"java/lang/IndexOutOfBoundsException", "<init>", "(Ljava/lang/String;)V"⟩ ∈ gA := gA_of (tb_1 157 rfl) rfl
set_option maxRecDepth 8000 in
theorem g_171 : Cond.code ⟨"java/lang/IndexOutOfBoundsException", "<init>", "(Ljava/lang/String;)V"⟩ prog_11_method_2_code 2 none ∈ gA := gA_of (tb_1 158 rfl) rfl
set_option maxRecDepth 8000 in
theorem g_172 : Cond.methodLink "java/lang/IndexOutOfBoundsException" 7 ⟨"java/lang/RuntimeException", "<init>", "(Ljava/lang/String;)V"⟩ ∈ gA := gA_of (tb_1 159 rfl) rfl
set_option maxRecDepth 8000 in
theorem g_173 : Cond.instanceMethod ⟨"java/lang/RuntimeException", "<init>", "(Ljava/lang/String;)V"⟩ ∈ gA := gA_of (tb_1 160 rfl) rfl
set_option maxRecDepth 8000 in
theorem g_174 : Cond.code ⟨"java/lang/RuntimeException", "<init>", "(Ljava/lang/String;)V"⟩ prog_13_method_2_code 2 none ∈ gA := gA_of (tb_1 161 rfl) rfl
set_option maxRecDepth 8000 in
theorem g_175 : Cond.methodLink "java/lang/RuntimeException" 7 ⟨"java/lang/Exception", "<init>", "(Ljava/lang/String;)V"⟩ ∈ gA := gA_of (tb_1 162 rfl) rfl
set_option maxRecDepth 8000 in
theorem g_176 : Cond.instanceMethod ⟨"java/lang/Exception", "<init>", "(Ljava/lang/String;)V"⟩ ∈ gA := gA_of (tb_1 163 rfl) rfl
set_option maxRecDepth 8000 in
theorem g_177 : Cond.code ⟨"java/lang/Exception", "<init>", "(Ljava/lang/String;)V"⟩ prog_8_method_2_code 2 none ∈ gA := gA_of (tb_1 164 rfl) rfl
set_option maxRecDepth 8000 in
theorem g_178 : Cond.methodLink "java/lang/Exception" 7 ⟨"java/lang/Throwable", "<init>", "(Ljava/lang/String;)V"⟩ ∈ gA := gA_of (tb_1 165 rfl) rfl
set_option maxRecDepth 8000 in
theorem g_179 : Cond.instanceMethod ⟨"java/lang/Throwable", "<init>", "(Ljava/lang/String;)V"⟩ ∈ gA := gA_of (tb_1 166 rfl) rfl
set_option maxRecDepth 8000 in
theorem g_180 : Cond.code ⟨"java/lang/Throwable", "<init>", "(Ljava/lang/String;)V"⟩ prog_15_method_2_code 2 none ∈ gA := gA_of (tb_1 167 rfl) rfl
set_option maxRecDepth 8000 in
theorem g_182 : Cond.fieldLink "java/lang/Throwable" 31 "java/lang/Throwable" "detailMessage" "Ljava/lang/String;" ∈ gA := gA_of (tb_1 169 rfl) rfl
set_option maxRecDepth 8000 in
theorem g_183 : Cond.fieldLink "java/lang/Throwable" 7 "java/lang/Throwable" "cause" "Ljava/lang/Throwable;" ∈ gA := gA_of (tb_1 170 rfl) rfl
set_option maxRecDepth 8000 in
theorem g_184 : Cond.fieldLink "java/lang/Throwable" 17 "java/lang/Throwable" "stackTrace" "[Ljava/lang/StackTraceElement;" ∈ gA := gA_of (tb_1 171 rfl) rfl
set_option maxRecDepth 8000 in
theorem g_185 : Cond.fieldLink "java/lang/Throwable" 24 "java/lang/Throwable" "suppressedExceptions" "Ljava/util/List;" ∈ gA := gA_of (tb_1 172 rfl) rfl
set_option maxRecDepth 8000 in
theorem g_186 : Cond.soleField "java/lang/Throwable" "backtrace" ∈ gA := gA_of (tb_1 173 rfl) rfl
set_option maxRecDepth 8000 in
theorem g_187 : Cond.soleField "java/lang/Throwable" "detailMessage" ∈ gA := gA_of (tb_1 174 rfl) rfl
set_option maxRecDepth 8000 in
theorem g_188 : Cond.soleField "java/lang/Throwable" "cause" ∈ gA := gA_of (tb_1 175 rfl) rfl
set_option maxRecDepth 8000 in
theorem g_189 : Cond.soleField "java/lang/Throwable" "stackTrace" ∈ gA := gA_of (tb_1 176 rfl) rfl
set_option maxRecDepth 8000 in
theorem g_190 : Cond.lays "java/lang/IndexOutOfBoundsException" "java/lang/Throwable" "depth" "I" ∈ gA := gA_of (tb_1 177 rfl) rfl
set_option maxRecDepth 8000 in
theorem g_191 : Cond.soleField "java/lang/Throwable" "depth" ∈ gA := gA_of (tb_1 178 rfl) rfl
set_option maxRecDepth 8000 in
theorem g_192 : Cond.soleField "java/lang/Throwable" "suppressedExceptions" ∈ gA := gA_of (tb_1 179 rfl) rfl
set_option maxRecDepth 8000 in
theorem g_193 : Cond.superclass "java/lang/IndexOutOfBoundsException" "java/lang/RuntimeException" ∈ gA := gA_of (tb_1 180 rfl) rfl
set_option maxRecDepth 8000 in
theorem g_194 : Cond.arrayClass .byte ∈ gA := gA_of (tb_1 181 rfl) rfl
set_option maxRecDepth 8000 in
theorem g_195 : Cond.methodLink RX2 126 yX0_tell ∈ gA := gA_of (tb_1 182 rfl) rfl
set_option maxRecDepth 8000 in
theorem g_196 : Cond.instanceMethod yX0_tell ∈ gA := gA_of (tb_1 183 rfl) rfl
set_option maxRecDepth 8000 in
theorem g_197 : Cond.selects RX0 yX0_tell yX0_tell ∈ gA := gA_of (tb_1 184 rfl) rfl
set_option maxRecDepth 8000 in
theorem g_198 : Cond.code yX0_tell cX0_tell 4 (some .int) ∈ gA := gA_of (tb_1 185 rfl) rfl
set_option maxRecDepth 8000 in
theorem g_199 : Cond.methodLink RX0 25 yX0_has ∈ gA := gA_of (tb_1 186 rfl) rfl
set_option maxRecDepth 8000 in
theorem g_200 : Cond.methodLink RX0 38 yX0_isGone ∈ gA := gA_of (tb_1 187 rfl) rfl
set_option maxRecDepth 8000 in
theorem g_201 : Cond.instanceMethod yX0_isGone ∈ gA := gA_of (tb_1 188 rfl) rfl
set_option maxRecDepth 8000 in
theorem g_202 : Cond.selects RX0 yX0_isGone yX0_isGone ∈ gA := gA_of (tb_1 189 rfl) rfl
set_option maxRecDepth 8000 in
theorem g_203 : Cond.code yX0_isGone cX0_isGone 3 (some .boolean) ∈ gA := gA_of (tb_1 190 rfl) rfl
set_option maxRecDepth 8000 in
theorem g_204 : Cond.methodLink RX0 29 yX1_isHanging ∈ gA := gA_of (tb_1 191 rfl) rfl
set_option maxRecDepth 8000 in
theorem g_205 : Cond.instanceMethod yX1_isHanging ∈ gA := gA_of (tb_1 192 rfl) rfl
set_option maxRecDepth 8000 in
theorem g_206 : Cond.selects RX1 yX1_isHanging yX1_isHanging ∈ gA := gA_of (tb_1 193 rfl) rfl
set_option maxRecDepth 8000 in
theorem g_207 : Cond.code yX1_isHanging cX1_isHanging 2 (some .boolean) ∈ gA := gA_of (tb_1 194 rfl) rfl
set_option maxRecDepth 8000 in
theorem g_208 : Cond.methodLink RX1 44 yX1_has ∈ gA := gA_of (tb_1 195 rfl) rfl
set_option maxRecDepth 8000 in
theorem g_209 : Cond.instanceMethod yX1_has ∈ gA := gA_of (tb_1 196 rfl) rfl
set_option maxRecDepth 8000 in
theorem g_210 : Cond.selects RX1 yX1_has yX1_has ∈ gA := gA_of (tb_1 197 rfl) rfl
set_option maxRecDepth 8000 in
theorem g_211 : Cond.code yX1_has cX1_has 2 (some .boolean) ∈ gA := gA_of (tb_1 198 rfl) rfl
set_option maxRecDepth 8000 in
theorem g_212 : Cond.methodLink RL 123 yX2_steps ∈ gA := gA_of (tb_1 199 rfl) rfl
set_option maxRecDepth 8000 in
theorem g_213 : Cond.instanceMethod yX2_steps ∈ gA := gA_of (tb_1 200 rfl) rfl
set_option maxRecDepth 8000 in
theorem g_214 : Cond.selects RX2 yX2_steps yX2_steps ∈ gA := gA_of (tb_1 201 rfl) rfl
set_option maxRecDepth 8000 in
theorem g_215 : Cond.code yX2_steps cX2_steps 3 (some .int) ∈ gA := gA_of (tb_1 202 rfl) rfl
set_option maxRecDepth 8000 in
theorem g_216 : Cond.methodLink RX2 59 yX1_has ∈ gA := gA_of (tb_1 203 rfl) rfl
set_option maxRecDepth 8000 in
theorem t_217 : Cond.stringRef RX2 65 "no such stone" ∈ lw_tbl := tb_1 204 rfl
set_option maxRecDepth 8000 in
theorem g_218 : Cond.methodLink RX2 68 yX1_isHanging ∈ gA := gA_of (tb_1 205 rfl) rfl
set_option maxRecDepth 8000 in
theorem g_219 : Cond.methodLink RX2 130 yX0_fewestSteps ∈ gA := gA_of (tb_1 206 rfl) rfl
set_option maxRecDepth 8000 in
theorem g_220 : Cond.instanceMethod yX0_fewestSteps ∈ gA := gA_of (tb_1 207 rfl) rfl
set_option maxRecDepth 8000 in
theorem g_221 : Cond.selects RX0 yX0_fewestSteps yX0_fewestSteps ∈ gA := gA_of (tb_1 208 rfl) rfl
set_option maxRecDepth 8000 in
theorem g_222 : Cond.code yX0_fewestSteps cX0_fewestSteps 6 (some .int) ∈ gA := gA_of (tb_1 209 rfl) rfl
set_option maxRecDepth 8000 in
theorem g_223 : Cond.methodLink RX0 42 yX1_has ∈ gA := gA_of (tb_1 210 rfl) rfl
set_option maxRecDepth 8000 in
theorem g_224 : Cond.methodLink RX0 43 yX0_reachFrom ∈ gA := gA_of (tb_1 211 rfl) rfl
set_option maxRecDepth 8000 in
theorem t_225 : Cond.privateMethod yX0_reachFrom ∈ lw_tbl := tb_1 212 rfl
set_option maxRecDepth 8000 in
theorem g_226 : Cond.instanceMethod yX0_reachFrom ∈ gA := gA_of (tb_1 213 rfl) rfl
set_option maxRecDepth 8000 in
theorem g_227 : Cond.code yX0_reachFrom cX0_reachFrom 5 (some .boolean) ∈ gA := gA_of (tb_1 214 rfl) rfl
set_option maxRecDepth 8000 in
theorem g_228 : Cond.methodLink RX0 46 yX0_stepOver ∈ gA := gA_of (tb_1 215 rfl) rfl
set_option maxRecDepth 8000 in
theorem t_229 : Cond.privateMethod yX0_stepOver ∈ lw_tbl := tb_1 216 rfl
set_option maxRecDepth 8000 in
theorem g_230 : Cond.instanceMethod yX0_stepOver ∈ gA := gA_of (tb_1 217 rfl) rfl
set_option maxRecDepth 8000 in
theorem g_231 : Cond.code yX0_stepOver cX0_stepOver 4 (some .boolean) ∈ gA := gA_of (tb_1 218 rfl) rfl
set_option maxRecDepth 8000 in
theorem g_232 : Cond.methodLink RX0 50 yX0_isPlace ∈ gA := gA_of (tb_1 219 rfl) rfl
set_option maxRecDepth 8000 in
theorem g_233 : Cond.static yX0_isPlace ∈ gA := gA_of (tb_1 220 rfl) rfl
set_option maxRecDepth 8000 in
theorem g_234 : Cond.code yX0_isPlace cX0_isPlace 1 (some .boolean) ∈ gA := gA_of (tb_1 221 rfl) rfl
set_option maxRecDepth 8000 in
theorem g_235 : Cond.methodLink RL 95 yX2_stone ∈ gA := gA_of (tb_1 222 rfl) rfl
set_option maxRecDepth 8000 in
theorem g_236 : Cond.instanceMethod yX2_stone ∈ gA := gA_of (tb_1 223 rfl) rfl
set_option maxRecDepth 8000 in
theorem g_237 : Cond.selects RX2 yX2_stone yX2_stone ∈ gA := gA_of (tb_1 224 rfl) rfl
set_option maxRecDepth 8000 in
theorem g_238 : Cond.code yX2_stone cX2_stone 3 (some .int) ∈ gA := gA_of (tb_1 225 rfl) rfl
set_option maxRecDepth 8000 in
theorem t_239 : Cond.stringRef RX2 133 "no such stone, or nothing to tell" ∈ lw_tbl := tb_1 226 rfl
set_option maxRecDepth 8000 in
theorem g_240 : Cond.methodLink RX2 135 yX1_tell ∈ gA := gA_of (tb_1 227 rfl) rfl
set_option maxRecDepth 8000 in
theorem g_241 : Cond.instanceMethod yX1_tell ∈ gA := gA_of (tb_1 228 rfl) rfl
set_option maxRecDepth 8000 in
theorem g_242 : Cond.selects RX1 yX1_tell yX1_tell ∈ gA := gA_of (tb_1 229 rfl) rfl
set_option maxRecDepth 8000 in
theorem g_243 : Cond.code yX1_tell cX1_tell 3 (some .int) ∈ gA := gA_of (tb_1 230 rfl) rfl
set_option maxRecDepth 8000 in
theorem g_244 : Cond.methodLink RX1 104 yX1_countHeldBy ∈ gA := gA_of (tb_1 231 rfl) rfl
set_option maxRecDepth 8000 in
theorem t_245 : Cond.privateMethod yX1_countHeldBy ∈ lw_tbl := tb_1 232 rfl
set_option maxRecDepth 8000 in
theorem g_246 : Cond.instanceMethod yX1_countHeldBy ∈ gA := gA_of (tb_1 233 rfl) rfl
set_option maxRecDepth 8000 in
theorem g_247 : Cond.code yX1_countHeldBy cX1_countHeldBy 4 (some .int) ∈ gA := gA_of (tb_1 234 rfl) rfl
set_option maxRecDepth 8000 in
theorem g_248 : Cond.methodLink RL 112 yX2_first ∈ gA := gA_of (tb_1 235 rfl) rfl
set_option maxRecDepth 8000 in
theorem g_249 : Cond.instanceMethod yX2_first ∈ gA := gA_of (tb_1 236 rfl) rfl
set_option maxRecDepth 8000 in
theorem g_250 : Cond.selects RX2 yX2_first yX2_first ∈ gA := gA_of (tb_1 237 rfl) rfl
set_option maxRecDepth 8000 in
theorem g_251 : Cond.code yX2_first cX2_first 2 (some .int) ∈ gA := gA_of (tb_1 238 rfl) rfl
set_option maxRecDepth 8000 in
theorem g_252 : Cond.methodLink RX2 137 yX1_topOf ∈ gA := gA_of (tb_1 239 rfl) rfl
set_option maxRecDepth 8000 in
theorem g_253 : Cond.instanceMethod yX1_topOf ∈ gA := gA_of (tb_2 0 rfl) rfl
set_option maxRecDepth 8000 in
theorem g_254 : Cond.selects RX1 yX1_topOf yX1_topOf ∈ gA := gA_of (tb_2 1 rfl) rfl
set_option maxRecDepth 8000 in
theorem g_255 : Cond.code yX1_topOf cX1_topOf 4 (some .int) ∈ gA := gA_of (tb_2 2 rfl) rfl
set_option maxRecDepth 8000 in
theorem g_256 : Cond.methodLink RL 91 yX2_count ∈ gA := gA_of (tb_2 3 rfl) rfl
set_option maxRecDepth 8000 in
theorem g_257 : Cond.instanceMethod yX2_count ∈ gA := gA_of (tb_2 4 rfl) rfl
set_option maxRecDepth 8000 in
theorem g_258 : Cond.selects RX2 yX2_count yX2_count ∈ gA := gA_of (tb_2 5 rfl) rfl
set_option maxRecDepth 8000 in
theorem g_259 : Cond.code yX2_count cX2_count 2 (some .int) ∈ gA := gA_of (tb_2 6 rfl) rfl
set_option maxRecDepth 8000 in
theorem t_260 : Cond.stringRef RX2 141 "nothing to tell" ∈ lw_tbl := tb_2 7 rfl
set_option maxRecDepth 8000 in
theorem g_261 : Cond.methodLink RX2 143 yX2_tellSky ∈ gA := gA_of (tb_2 8 rfl) rfl
set_option maxRecDepth 8000 in
theorem t_262 : Cond.privateMethod yX2_tellSky ∈ lw_tbl := tb_2 9 rfl
set_option maxRecDepth 8000 in
theorem g_263 : Cond.instanceMethod yX2_tellSky ∈ gA := gA_of (tb_2 10 rfl) rfl
set_option maxRecDepth 8000 in
theorem g_264 : Cond.code yX2_tellSky cX2_tellSky 2 (some .int) ∈ gA := gA_of (tb_2 11 rfl) rfl
set_option maxRecDepth 8000 in
theorem g_265 : Cond.methodLink RX2 199 yX1_countSpells ∈ gA := gA_of (tb_2 12 rfl) rfl
set_option maxRecDepth 8000 in
theorem g_266 : Cond.instanceMethod yX1_countSpells ∈ gA := gA_of (tb_2 13 rfl) rfl
set_option maxRecDepth 8000 in
theorem g_267 : Cond.selects RX1 yX1_countSpells yX1_countSpells ∈ gA := gA_of (tb_2 14 rfl) rfl
set_option maxRecDepth 8000 in
theorem g_268 : Cond.code yX1_countSpells cX1_countSpells 3 (some .int) ∈ gA := gA_of (tb_2 15 rfl) rfl
set_option maxRecDepth 8000 in
theorem g_269 : Cond.methodLink RX2 162 yX0_countLeft ∈ gA := gA_of (tb_2 16 rfl) rfl
set_option maxRecDepth 8000 in
theorem g_270 : Cond.instanceMethod yX0_countLeft ∈ gA := gA_of (tb_2 17 rfl) rfl
set_option maxRecDepth 8000 in
theorem g_271 : Cond.selects RX0 yX0_countLeft yX0_countLeft ∈ gA := gA_of (tb_2 18 rfl) rfl
set_option maxRecDepth 8000 in
theorem g_272 : Cond.code yX0_countLeft cX0_countLeft 4 (some .int) ∈ gA := gA_of (tb_2 19 rfl) rfl
set_option maxRecDepth 8000 in
theorem g_273 : Cond.methodLink RX2 166 yX1_sumOfPowers ∈ gA := gA_of (tb_2 20 rfl) rfl
set_option maxRecDepth 8000 in
theorem g_274 : Cond.instanceMethod yX1_sumOfPowers ∈ gA := gA_of (tb_2 21 rfl) rfl
set_option maxRecDepth 8000 in
theorem g_275 : Cond.selects RX1 yX1_sumOfPowers yX1_sumOfPowers ∈ gA := gA_of (tb_2 22 rfl) rfl
set_option maxRecDepth 8000 in
theorem g_276 : Cond.code yX1_sumOfPowers cX1_sumOfPowers 3 (some .int) ∈ gA := gA_of (tb_2 23 rfl) rfl
set_option maxRecDepth 8000 in
theorem g_277 : Cond.methodLink RX2 202 yX1_sumOfProps ∈ gA := gA_of (tb_2 24 rfl) rfl
set_option maxRecDepth 8000 in
theorem g_278 : Cond.instanceMethod yX1_sumOfProps ∈ gA := gA_of (tb_2 25 rfl) rfl
set_option maxRecDepth 8000 in
theorem g_279 : Cond.selects RX1 yX1_sumOfProps yX1_sumOfProps ∈ gA := gA_of (tb_2 26 rfl) rfl
set_option maxRecDepth 8000 in
theorem g_280 : Cond.code yX1_sumOfProps cX1_sumOfProps 3 (some .int) ∈ gA := gA_of (tb_2 27 rfl) rfl
set_option maxRecDepth 8000 in
theorem g_281 : Cond.methodLink RX2 205 yX1_sumOfSpelledLoads ∈ gA := gA_of (tb_2 28 rfl) rfl
set_option maxRecDepth 8000 in
theorem g_282 : Cond.instanceMethod yX1_sumOfSpelledLoads ∈ gA := gA_of (tb_2 29 rfl) rfl
set_option maxRecDepth 8000 in
theorem g_283 : Cond.selects RX1 yX1_sumOfSpelledLoads yX1_sumOfSpelledLoads ∈ gA := gA_of (tb_2 30 rfl) rfl
set_option maxRecDepth 8000 in
theorem g_284 : Cond.code yX1_sumOfSpelledLoads cX1_sumOfSpelledLoads 3 (some .int) ∈ gA := gA_of (tb_2 31 rfl) rfl
set_option maxRecDepth 8000 in
theorem g_285 : Cond.methodLink RL 107 yX2_pass ∈ gA := gA_of (tb_2 32 rfl) rfl
set_option maxRecDepth 8000 in
theorem g_286 : Cond.instanceMethod yX2_pass ∈ gA := gA_of (tb_2 33 rfl) rfl
set_option maxRecDepth 8000 in
theorem g_287 : Cond.selects RX2 yX2_pass yX2_pass ∈ gA := gA_of (tb_2 34 rfl) rfl
set_option maxRecDepth 8000 in
theorem g_288 : Cond.code yX2_pass cX2_pass 3 (some .int) ∈ gA := gA_of (tb_2 35 rfl) rfl
set_option maxRecDepth 8000 in
theorem g_289 : Cond.classLink RX2 34 "java/lang/IllegalArgumentException" ∈ gA := gA_of (tb_2 36 rfl) rfl
set_option maxRecDepth 8000 in
theorem g_290 : Cond.instantiable "java/lang/IllegalArgumentException" 6 ∈ gA := gA_of (tb_2 37 rfl) rfl
set_option maxRecDepth 8000 in
theorem t_291 : Cond.castable "java/lang/IllegalArgumentException" "java/lang/IllegalArgumentException" ∈ lw_tbl := tb_2 38 rfl
set_option maxRecDepth 8000 in
theorem g_292 : Cond.selects "java/lang/IllegalArgumentException" ⟨"java/lang/Throwable", "fillInStackTrace", "(I)Ljava/lang/Throwable;"⟩ ⟨"java/lang/Throwable", "fillInStackTrace", "(I)Ljava/lang/Throwable;"⟩ ∈ gA := gA_of (tb_2 39 rfl) rfl
set_option maxRecDepth 8000 in
theorem g_293 : Cond.lays "java/lang/IllegalArgumentException" "java/lang/Throwable" "cause" "Ljava/lang/Throwable;" ∈ gA := gA_of (tb_2 40 rfl) rfl
set_option maxRecDepth 8000 in
theorem g_294 : Cond.lays "java/lang/IllegalArgumentException" "java/lang/Throwable" "stackTrace" "[Ljava/lang/StackTraceElement;" ∈ gA := gA_of (tb_2 41 rfl) rfl
set_option maxRecDepth 8000 in
theorem g_295 : Cond.lays "java/lang/IllegalArgumentException" "java/lang/Throwable" "suppressedExceptions" "Ljava/util/List;" ∈ gA := gA_of (tb_2 42 rfl) rfl
set_option maxRecDepth 8000 in
theorem g_296 : Cond.lays "java/lang/IllegalArgumentException" "java/lang/Throwable" "detailMessage" "Ljava/lang/String;" ∈ gA := gA_of (tb_2 43 rfl) rfl
set_option maxRecDepth 8000 in
theorem g_297 : Cond.lays "java/lang/IllegalArgumentException" "java/lang/Throwable" "backtrace" "Ljava/lang/Object;" ∈ gA := gA_of (tb_2 44 rfl) rfl
set_option maxRecDepth 8000 in
theorem t_298 : Cond.stringRef RX2 146 "no such days" ∈ lw_tbl := tb_2 45 rfl
set_option maxRecDepth 8000 in
theorem g_299 : Cond.methodLink RX2 38 ⟨"java/lang/IllegalArgumentException", "<init>", "(Ljava/lang/String;)V"⟩ ∈ gA := gA_of (tb_2 46 rfl) rfl
set_option maxRecDepth 8000 in
theorem g_300 : Cond.instanceMethod ⟨"java/lang/IllegalArgumentException", "<init>", "(Ljava/lang/String;)V"⟩ ∈ gA := gA_of (tb_2 47 rfl) rfl
set_option maxRecDepth 8000 in
theorem g_301 : Cond.code ⟨"java/lang/IllegalArgumentException", "<init>", "(Ljava/lang/String;)V"⟩ prog_9_method_2_code 2 none ∈ gA := gA_of (tb_2 48 rfl) rfl
set_option maxRecDepth 8000 in
theorem g_302 : Cond.methodLink "java/lang/IllegalArgumentException" 7 ⟨"java/lang/RuntimeException", "<init>", "(Ljava/lang/String;)V"⟩ ∈ gA := gA_of (tb_2 49 rfl) rfl
set_option maxRecDepth 8000 in
theorem g_303 : Cond.lays "java/lang/IllegalArgumentException" "java/lang/Throwable" "depth" "I" ∈ gA := gA_of (tb_2 50 rfl) rfl
set_option maxRecDepth 8000 in
theorem g_304 : Cond.superclass "java/lang/IllegalArgumentException" "java/lang/RuntimeException" ∈ gA := gA_of (tb_2 51 rfl) rfl
set_option maxRecDepth 8000 in
theorem g_305 : Cond.methodLink RX2 148 yX1_liveDays ∈ gA := gA_of (tb_2 52 rfl) rfl
set_option maxRecDepth 8000 in
theorem g_306 : Cond.instanceMethod yX1_liveDays ∈ gA := gA_of (tb_2 53 rfl) rfl
set_option maxRecDepth 8000 in
theorem g_307 : Cond.selects RX1 yX1_liveDays yX1_liveDays ∈ gA := gA_of (tb_2 54 rfl) rfl
set_option maxRecDepth 8000 in
theorem g_308 : Cond.code yX1_liveDays cX1_liveDays 3 none ∈ gA := gA_of (tb_2 55 rfl) rfl
set_option maxRecDepth 8000 in
theorem g_309 : Cond.methodLink RX1 98 yX1_liveDay ∈ gA := gA_of (tb_2 56 rfl) rfl
set_option maxRecDepth 8000 in
theorem g_310 : Cond.instanceMethod yX1_liveDay ∈ gA := gA_of (tb_2 57 rfl) rfl
set_option maxRecDepth 8000 in
theorem g_311 : Cond.selects RX1 yX1_liveDay yX1_liveDay ∈ gA := gA_of (tb_2 58 rfl) rfl
set_option maxRecDepth 8000 in
theorem g_312 : Cond.code yX1_liveDay cX1_liveDay 1 none ∈ gA := gA_of (tb_2 59 rfl) rfl
set_option maxRecDepth 8000 in
theorem g_313 : Cond.methodLink RX1 101 yX1_fade ∈ gA := gA_of (tb_2 60 rfl) rfl
set_option maxRecDepth 8000 in
theorem t_314 : Cond.privateMethod yX1_fade ∈ lw_tbl := tb_2 61 rfl
set_option maxRecDepth 8000 in
theorem g_315 : Cond.instanceMethod yX1_fade ∈ gA := gA_of (tb_2 62 rfl) rfl
set_option maxRecDepth 8000 in
theorem g_316 : Cond.code yX1_fade cX1_fade 2 none ∈ gA := gA_of (tb_2 63 rfl) rfl
set_option maxRecDepth 8000 in
theorem g_317 : Cond.methodLink RX1 92 yX1_endSpell ∈ gA := gA_of (tb_2 64 rfl) rfl
set_option maxRecDepth 8000 in
theorem t_318 : Cond.privateMethod yX1_endSpell ∈ lw_tbl := tb_2 65 rfl
set_option maxRecDepth 8000 in
theorem g_319 : Cond.instanceMethod yX1_endSpell ∈ gA := gA_of (tb_2 66 rfl) rfl
set_option maxRecDepth 8000 in
theorem g_320 : Cond.code yX1_endSpell cX1_endSpell 2 none ∈ gA := gA_of (tb_2 67 rfl) rfl
set_option maxRecDepth 8000 in
theorem g_321 : Cond.methodLink RX1 75 yX1_dropLoose ∈ gA := gA_of (tb_2 68 rfl) rfl
set_option maxRecDepth 8000 in
theorem t_322 : Cond.privateMethod yX1_dropLoose ∈ lw_tbl := tb_2 69 rfl
set_option maxRecDepth 8000 in
theorem g_323 : Cond.instanceMethod yX1_dropLoose ∈ gA := gA_of (tb_2 70 rfl) rfl
set_option maxRecDepth 8000 in
theorem g_324 : Cond.code yX1_dropLoose cX1_dropLoose 2 none ∈ gA := gA_of (tb_2 71 rfl) rfl
set_option maxRecDepth 8000 in
theorem g_325 : Cond.methodLink RX1 88 yX1_tearHoldsFrom ∈ gA := gA_of (tb_2 72 rfl) rfl
set_option maxRecDepth 8000 in
theorem t_326 : Cond.privateMethod yX1_tearHoldsFrom ∈ lw_tbl := tb_2 73 rfl
set_option maxRecDepth 8000 in
theorem g_327 : Cond.instanceMethod yX1_tearHoldsFrom ∈ gA := gA_of (tb_2 74 rfl) rfl
set_option maxRecDepth 8000 in
theorem g_328 : Cond.code yX1_tearHoldsFrom cX1_tearHoldsFrom 3 none ∈ gA := gA_of (tb_2 75 rfl) rfl
set_option maxRecDepth 8000 in
theorem g_329 : Cond.methodLink RX1 95 yX1_giveWay ∈ gA := gA_of (tb_2 76 rfl) rfl
set_option maxRecDepth 8000 in
theorem g_330 : Cond.instanceMethod yX1_giveWay ∈ gA := gA_of (tb_2 77 rfl) rfl
set_option maxRecDepth 8000 in
theorem g_331 : Cond.selects RX1 yX1_giveWay yX1_giveWay ∈ gA := gA_of (tb_2 78 rfl) rfl
set_option maxRecDepth 8000 in
theorem g_332 : Cond.code yX1_giveWay cX1_giveWay 3 none ∈ gA := gA_of (tb_2 79 rfl) rfl
set_option maxRecDepth 8000 in
theorem g_333 : Cond.methodLink RX1 66 yX1_measure ∈ gA := gA_of (tb_2 80 rfl) rfl
set_option maxRecDepth 8000 in
theorem t_334 : Cond.privateMethod yX1_measure ∈ lw_tbl := tb_2 81 rfl
set_option maxRecDepth 8000 in
theorem g_335 : Cond.instanceMethod yX1_measure ∈ gA := gA_of (tb_2 82 rfl) rfl
set_option maxRecDepth 8000 in
theorem g_336 : Cond.code yX1_measure cX1_measure 2 none ∈ gA := gA_of (tb_2 83 rfl) rfl
set_option maxRecDepth 8000 in
theorem g_337 : Cond.methodLink RX1 78 ⟨"java/lang/Math", "max", "(II)I"⟩ ∈ gA := gA_of (tb_2 84 rfl) rfl
set_option maxRecDepth 8000 in
theorem g_338 : Cond.static ⟨"java/lang/Math", "max", "(II)I"⟩ ∈ gA := gA_of (tb_2 85 rfl) rfl
set_option maxRecDepth 8000 in
theorem g_339 : Cond.code ⟨"java/lang/Math", "max", "(II)I"⟩ prog_12_method_65_code 2 (some .int) ∈ gA := gA_of (tb_2 86 rfl) rfl
set_option maxRecDepth 8000 in
theorem g_340 : Cond.methodLink RX1 84 yX1_bear ∈ gA := gA_of (tb_2 87 rfl) rfl
set_option maxRecDepth 8000 in
theorem t_341 : Cond.privateMethod yX1_bear ∈ lw_tbl := tb_2 88 rfl
set_option maxRecDepth 8000 in
theorem g_342 : Cond.instanceMethod yX1_bear ∈ gA := gA_of (tb_2 89 rfl) rfl
set_option maxRecDepth 8000 in
theorem g_343 : Cond.code yX1_bear cX1_bear 3 none ∈ gA := gA_of (tb_2 90 rfl) rfl
set_option maxRecDepth 8000 in
theorem g_344 : Cond.methodLink RX1 69 yX1_tearOverpulled ∈ gA := gA_of (tb_2 91 rfl) rfl
set_option maxRecDepth 8000 in
theorem t_345 : Cond.privateMethod yX1_tearOverpulled ∈ lw_tbl := tb_2 92 rfl
set_option maxRecDepth 8000 in
theorem g_346 : Cond.instanceMethod yX1_tearOverpulled ∈ gA := gA_of (tb_2 93 rfl) rfl
set_option maxRecDepth 8000 in
theorem g_347 : Cond.code yX1_tearOverpulled cX1_tearOverpulled 2 none ∈ gA := gA_of (tb_2 94 rfl) rfl
set_option maxRecDepth 8000 in
theorem g_348 : Cond.methodLink RX1 72 yX1_endOverloaded ∈ gA := gA_of (tb_2 95 rfl) rfl
set_option maxRecDepth 8000 in
theorem t_349 : Cond.privateMethod yX1_endOverloaded ∈ lw_tbl := tb_2 96 rfl
set_option maxRecDepth 8000 in
theorem g_350 : Cond.instanceMethod yX1_endOverloaded ∈ gA := gA_of (tb_2 97 rfl) rfl
set_option maxRecDepth 8000 in
theorem g_351 : Cond.code yX1_endOverloaded cX1_endOverloaded 2 none ∈ gA := gA_of (tb_2 98 rfl) rfl
set_option maxRecDepth 8000 in
theorem g_352 : Cond.methodLink RL 101 yX2_without ∈ gA := gA_of (tb_2 99 rfl) rfl
set_option maxRecDepth 8000 in
theorem g_353 : Cond.instanceMethod yX2_without ∈ gA := gA_of (tb_2 100 rfl) rfl
set_option maxRecDepth 8000 in
theorem g_354 : Cond.selects RX2 yX2_without yX2_without ∈ gA := gA_of (tb_2 101 rfl) rfl
set_option maxRecDepth 8000 in
theorem g_355 : Cond.code yX2_without cX2_without 2 (some .int) ∈ gA := gA_of (tb_2 102 rfl) rfl
set_option maxRecDepth 8000 in
theorem g_356 : Cond.methodLink RX2 152 yX1_copyFrom ∈ gA := gA_of (tb_2 103 rfl) rfl
set_option maxRecDepth 8000 in
theorem g_357 : Cond.instanceMethod yX1_copyFrom ∈ gA := gA_of (tb_2 104 rfl) rfl
set_option maxRecDepth 8000 in
theorem g_358 : Cond.selects RX1 yX1_copyFrom yX1_copyFrom ∈ gA := gA_of (tb_2 105 rfl) rfl
set_option maxRecDepth 8000 in
theorem g_359 : Cond.code yX1_copyFrom cX1_copyFrom 3 none ∈ gA := gA_of (tb_2 106 rfl) rfl
set_option maxRecDepth 8000 in
theorem g_360 : Cond.methodLink RX2 156 yX1_cutLoose ∈ gA := gA_of (tb_2 107 rfl) rfl
set_option maxRecDepth 8000 in
theorem g_361 : Cond.instanceMethod yX1_cutLoose ∈ gA := gA_of (tb_2 108 rfl) rfl
set_option maxRecDepth 8000 in
theorem g_362 : Cond.selects RX1 yX1_cutLoose yX1_cutLoose ∈ gA := gA_of (tb_2 109 rfl) rfl
set_option maxRecDepth 8000 in
theorem g_363 : Cond.code yX1_cutLoose cX1_cutLoose 2 none ∈ gA := gA_of (tb_2 110 rfl) rfl
set_option maxRecDepth 8000 in
theorem g_364 : Cond.methodLink RL 98 yX2_lasts ∈ gA := gA_of (tb_2 111 rfl) rfl
set_option maxRecDepth 8000 in
theorem g_365 : Cond.instanceMethod yX2_lasts ∈ gA := gA_of (tb_2 112 rfl) rfl
set_option maxRecDepth 8000 in
theorem g_366 : Cond.selects RX2 yX2_lasts yX2_lasts ∈ gA := gA_of (tb_2 113 rfl) rfl
set_option maxRecDepth 8000 in
theorem g_367 : Cond.code yX2_lasts cX2_lasts 3 (some .int) ∈ gA := gA_of (tb_2 114 rfl) rfl
set_option maxRecDepth 8000 in
theorem g_368 : Cond.methodLink RX2 159 yX1_liveDay ∈ gA := gA_of (tb_2 115 rfl) rfl
set_option maxRecDepth 8000 in
theorem g_369 : Cond.methodLink RL 104 yX2_foresee ∈ gA := gA_of (tb_2 116 rfl) rfl
set_option maxRecDepth 8000 in
theorem g_370 : Cond.instanceMethod yX2_foresee ∈ gA := gA_of (tb_2 117 rfl) rfl
set_option maxRecDepth 8000 in
theorem g_371 : Cond.selects RX2 yX2_foresee yX2_foresee ∈ gA := gA_of (tb_2 118 rfl) rfl
set_option maxRecDepth 8000 in
theorem g_372 : Cond.code yX2_foresee cX2_foresee 3 (some .int) ∈ gA := gA_of (tb_2 119 rfl) rfl
set_option maxRecDepth 8000 in
theorem g_373 : Cond.methodLink RL 110 yX3_pass ∈ gA := gA_of (tb_2 120 rfl) rfl
set_option maxRecDepth 8000 in
theorem g_374 : Cond.instanceMethod yX3_pass ∈ gA := gA_of (tb_2 121 rfl) rfl
set_option maxRecDepth 8000 in
theorem g_375 : Cond.selects RX3 yX3_pass yX3_pass ∈ gA := gA_of (tb_2 122 rfl) rfl
set_option maxRecDepth 8000 in
theorem g_376 : Cond.code yX3_pass cX3_pass 5 none ∈ gA := gA_of (tb_2 123 rfl) rfl
set_option maxRecDepth 8000 in
theorem g_377 : Cond.methodLink RX3 65 yX3_drop ∈ gA := gA_of (tb_2 124 rfl) rfl
set_option maxRecDepth 8000 in
theorem g_378 : Cond.instanceMethod yX3_drop ∈ gA := gA_of (tb_2 125 rfl) rfl
set_option maxRecDepth 8000 in
theorem g_379 : Cond.selects RX3 yX3_drop yX3_drop ∈ gA := gA_of (tb_2 126 rfl) rfl
set_option maxRecDepth 8000 in
theorem g_380 : Cond.code yX3_drop cX3_drop 7 none ∈ gA := gA_of (tb_2 127 rfl) rfl
set_option maxRecDepth 8000 in
theorem g_381 : Cond.methodLink RX3 57 yX4_lose ∈ gA := gA_of (tb_2 128 rfl) rfl
set_option maxRecDepth 8000 in
theorem g_382 : Cond.instanceMethod yX4_lose ∈ gA := gA_of (tb_2 129 rfl) rfl
set_option maxRecDepth 8000 in
theorem g_383 : Cond.selects RX4 yX4_lose yX4_lose ∈ gA := gA_of (tb_2 130 rfl) rfl
set_option maxRecDepth 8000 in
theorem g_384 : Cond.code yX4_lose cX4_lose 8 none ∈ gA := gA_of (tb_2 131 rfl) rfl
set_option maxRecDepth 8000 in
theorem g_385 : Cond.methodLink RX4 31 yX4_isFrom ∈ gA := gA_of (tb_2 132 rfl) rfl
set_option maxRecDepth 8000 in
theorem g_386 : Cond.instanceMethod yX4_isFrom ∈ gA := gA_of (tb_2 133 rfl) rfl
set_option maxRecDepth 8000 in
theorem g_387 : Cond.selects RX4 yX4_isFrom yX4_isFrom ∈ gA := gA_of (tb_2 134 rfl) rfl
set_option maxRecDepth 8000 in
theorem g_388 : Cond.code yX4_isFrom cX4_isFrom 6 (some .boolean) ∈ gA := gA_of (tb_2 135 rfl) rfl
set_option maxRecDepth 8000 in
theorem g_389 : Cond.methodLink RX3 47 yX3_giveWay ∈ gA := gA_of (tb_2 136 rfl) rfl
set_option maxRecDepth 8000 in
theorem g_390 : Cond.instanceMethod yX3_giveWay ∈ gA := gA_of (tb_2 137 rfl) rfl
set_option maxRecDepth 8000 in
theorem g_391 : Cond.selects RX3 yX3_giveWay yX3_giveWay ∈ gA := gA_of (tb_2 138 rfl) rfl
set_option maxRecDepth 8000 in
theorem g_392 : Cond.code yX3_giveWay cX3_giveWay 10 none ∈ gA := gA_of (tb_2 139 rfl) rfl
set_option maxRecDepth 8000 in
theorem g_393 : Cond.methodLink RX3 61 yX3_reckon ∈ gA := gA_of (tb_2 140 rfl) rfl
set_option maxRecDepth 8000 in
theorem g_394 : Cond.instanceMethod yX3_reckon ∈ gA := gA_of (tb_2 141 rfl) rfl
set_option maxRecDepth 8000 in
theorem g_395 : Cond.selects RX3 yX3_reckon yX3_reckon ∈ gA := gA_of (tb_2 142 rfl) rfl
set_option maxRecDepth 8000 in
theorem g_396 : Cond.code yX3_reckon cX3_reckon 8 (Option.some (.array (.array .int))) ∈ gA := gA_of (tb_2 143 rfl) rfl
set_option maxRecDepth 8000 in
theorem g_397 : Cond.classLink RX3 15 "[I" ∈ gA := gA_of (tb_2 144 rfl) rfl
set_option maxRecDepth 8000 in
theorem t_398 : Cond.arrayOver (.array .int) ∈ lw_tbl := tb_2 145 rfl
set_option maxRecDepth 8000 in
theorem g_399 : Cond.methodLink RL 129 yX3_isSame ∈ gA := gA_of (tb_2 146 rfl) rfl
set_option maxRecDepth 8000 in
theorem g_400 : Cond.instanceMethod yX3_isSame ∈ gA := gA_of (tb_2 147 rfl) rfl
set_option maxRecDepth 8000 in
theorem g_401 : Cond.selects RX3 yX3_isSame yX3_isSame ∈ gA := gA_of (tb_2 148 rfl) rfl
set_option maxRecDepth 8000 in
theorem g_402 : Cond.code yX3_isSame cX3_isSame 14 (some .boolean) ∈ gA := gA_of (tb_2 149 rfl) rfl
set_option maxRecDepth 8000 in
theorem g_403 : Cond.methodLink RX3 68 yX4_isFrom ∈ gA := gA_of (tb_2 150 rfl) rfl
set_option maxRecDepth 8000 in
theorem g_404 : Cond.methodLink RX3 72 yX2_stone ∈ gA := gA_of (tb_2 151 rfl) rfl
set_option maxRecDepth 8000 in
theorem g_405 : Cond.methodLink RX3 78 yX2_joins ∈ gA := gA_of (tb_2 152 rfl) rfl
set_option maxRecDepth 8000 in
theorem g_406 : Cond.methodLink RX3 81 yX3_hanging ∈ gA := gA_of (tb_2 153 rfl) rfl
set_option maxRecDepth 8000 in
theorem g_407 : Cond.instanceMethod yX3_hanging ∈ gA := gA_of (tb_2 154 rfl) rfl
set_option maxRecDepth 8000 in
theorem g_408 : Cond.selects RX3 yX3_hanging yX3_hanging ∈ gA := gA_of (tb_2 155 rfl) rfl
set_option maxRecDepth 8000 in
theorem g_409 : Cond.code yX3_hanging cX3_hanging 6 (some .int) ∈ gA := gA_of (tb_2 156 rfl) rfl
set_option maxRecDepth 8000 in
theorem g_410 : Cond.methodLink RX3 85 yX3_stairs ∈ gA := gA_of (tb_2 157 rfl) rfl
set_option maxRecDepth 8000 in
theorem g_411 : Cond.instanceMethod yX3_stairs ∈ gA := gA_of (tb_2 158 rfl) rfl
set_option maxRecDepth 8000 in
theorem g_412 : Cond.selects RX3 yX3_stairs yX3_stairs ∈ gA := gA_of (tb_2 159 rfl) rfl
set_option maxRecDepth 8000 in
theorem g_413 : Cond.code yX3_stairs cX3_stairs 6 (some .int) ∈ gA := gA_of (tb_2 160 rfl) rfl
set_option maxRecDepth 8000 in
theorem g_414 : Cond.methodLink RX3 87 yX3_power ∈ gA := gA_of (tb_2 161 rfl) rfl
set_option maxRecDepth 8000 in
theorem g_415 : Cond.instanceMethod yX3_power ∈ gA := gA_of (tb_2 162 rfl) rfl
set_option maxRecDepth 8000 in
theorem g_416 : Cond.selects RX3 yX3_power yX3_power ∈ gA := gA_of (tb_2 163 rfl) rfl
set_option maxRecDepth 8000 in
theorem g_417 : Cond.code yX3_power cX3_power 6 (some .int) ∈ gA := gA_of (tb_2 164 rfl) rfl
set_option maxRecDepth 8000 in
theorem g_418 : Cond.methodLink RX3 89 yX2_count ∈ gA := gA_of (tb_2 165 rfl) rfl
set_option maxRecDepth 8000 in
theorem g_419 : Cond.methodLink RX3 93 yX2_mean ∈ gA := gA_of (tb_2 166 rfl) rfl
set_option maxRecDepth 8000 in
theorem g_420 : Cond.instanceMethod yX2_mean ∈ gA := gA_of (tb_2 167 rfl) rfl
set_option maxRecDepth 8000 in
theorem g_421 : Cond.selects RX2 yX2_mean yX2_mean ∈ gA := gA_of (tb_2 168 rfl) rfl
set_option maxRecDepth 8000 in
theorem g_422 : Cond.code yX2_mean cX2_mean 1 (some .double) ∈ gA := gA_of (tb_2 169 rfl) rfl
set_option maxRecDepth 8000 in
theorem g_423 : Cond.methodLink RX2 186 yX1_sumOfLoads ∈ gA := gA_of (tb_2 170 rfl) rfl
set_option maxRecDepth 8000 in
theorem g_424 : Cond.instanceMethod yX1_sumOfLoads ∈ gA := gA_of (tb_2 171 rfl) rfl
set_option maxRecDepth 8000 in
theorem g_425 : Cond.selects RX1 yX1_sumOfLoads yX1_sumOfLoads ∈ gA := gA_of (tb_2 172 rfl) rfl
set_option maxRecDepth 8000 in
theorem g_426 : Cond.code yX1_sumOfLoads cX1_sumOfLoads 3 (some .int) ∈ gA := gA_of (tb_2 173 rfl) rfl
set_option maxRecDepth 8000 in
theorem g_427 : Cond.methodLink RL 15 yL_below ∈ gA := gA_of (tb_2 174 rfl) rfl
set_option maxRecDepth 8000 in
theorem g_428 : Cond.static yL_below ∈ gA := gA_of (tb_2 175 rfl) rfl
set_option maxRecDepth 8000 in
theorem g_429 : Cond.code yL_below cL_below 2 (some .int) ∈ gA := gA_of (tb_2 176 rfl) rfl
set_option maxRecDepth 8000 in
theorem g_430 : Cond.constant RL 7 (2147483647 : Int32) ∈ gA := gA_of (tb_2 177 rfl) rfl
set_option maxRecDepth 8000 in
theorem g_431 : Cond.methodLink RL 78 yL_cell ∈ gA := gA_of (tb_2 178 rfl) rfl
set_option maxRecDepth 8000 in
theorem g_432 : Cond.static yL_cell ∈ gA := gA_of (tb_2 179 rfl) rfl
set_option maxRecDepth 8000 in
theorem g_433 : Cond.code yL_cell cL_cell 2 (some .int) ∈ gA := gA_of (tb_2 180 rfl) rfl
set_option maxRecDepth 8000 in
theorem g_434 : Cond.constant RL 8 (790386105 : Int32) ∈ gA := gA_of (tb_2 181 rfl) rfl
set_option maxRecDepth 8000 in
theorem g_435 : Cond.methodLink RL 82 yL_act ∈ gA := gA_of (tb_2 182 rfl) rfl
set_option maxRecDepth 8000 in
theorem g_436 : Cond.static yL_act ∈ gA := gA_of (tb_2 183 rfl) rfl
set_option maxRecDepth 8000 in
theorem g_437 : Cond.code yL_act cL_act 23 (some .boolean) ∈ gA := gA_of (tb_2 184 rfl) rfl
set_option maxRecDepth 8000 in
theorem g_438 : Cond.methodLink RL 21 yX3_add ∈ gA := gA_of (tb_2 185 rfl) rfl
set_option maxRecDepth 8000 in
theorem g_439 : Cond.instanceMethod yX3_add ∈ gA := gA_of (tb_2 186 rfl) rfl
set_option maxRecDepth 8000 in
theorem g_440 : Cond.selects RX3 yX3_add yX3_add ∈ gA := gA_of (tb_2 187 rfl) rfl
set_option maxRecDepth 8000 in
theorem g_441 : Cond.code yX3_add cX3_add 7 none ∈ gA := gA_of (tb_2 188 rfl) rfl
set_option maxRecDepth 8000 in
theorem g_442 : Cond.classLink RX3 7 RX4 ∈ gA := gA_of (tb_2 189 rfl) rfl
set_option maxRecDepth 8000 in
theorem t_443 : Cond.arrayOver (.object RX4) ∈ lw_tbl := tb_2 190 rfl
set_option maxRecDepth 8000 in
theorem g_444 : Cond.instantiable RX4 6 ∈ gA := gA_of (tb_2 191 rfl) rfl
set_option maxRecDepth 8000 in
theorem t_445 : Cond.methodLinkNest RX3 34 yX4_init RL ∈ lw_tbl := tb_2 192 rfl
set_option maxRecDepth 8000 in
theorem g_446 : Cond.instanceMethod yX4_init ∈ gA := gA_of (tb_2 193 rfl) rfl
set_option maxRecDepth 8000 in
theorem g_447 : Cond.code yX4_init cX4_init 1 none ∈ gA := gA_of (tb_2 194 rfl) rfl
set_option maxRecDepth 8000 in
theorem g_448 : Cond.methodLink RX4 1 ⟨"java/lang/Object", "<init>", "()V"⟩ ∈ gA := gA_of (tb_2 195 rfl) rfl
set_option maxRecDepth 8000 in
theorem g_449 : Cond.fieldLink RX3 35 RX4 "weight" "I" ∈ gA := gA_of (tb_2 196 rfl) rfl
set_option maxRecDepth 8000 in
theorem g_450 : Cond.fieldLink RX3 38 RX4 "strength" "I" ∈ gA := gA_of (tb_2 197 rfl) rfl
set_option maxRecDepth 8000 in
theorem g_451 : Cond.fieldLink RX4 7 RX4 "hangs" "Z" ∈ gA := gA_of (tb_2 198 rfl) rfl
set_option maxRecDepth 8000 in
theorem g_452 : Cond.fieldLink RX3 50 RX4 "hangs" "Z" ∈ gA := gA_of (tb_2 199 rfl) rfl
set_option maxRecDepth 8000 in
theorem g_453 : Cond.fieldLink RL 31 RX4 "hangs" "Z" ∈ gA := gA_of (tb_2 200 rfl) rfl
set_option maxRecDepth 8000 in
theorem g_454 : Cond.fieldLink RX3 41 RX4 "power" "I" ∈ gA := gA_of (tb_2 201 rfl) rfl
set_option maxRecDepth 8000 in
theorem g_455 : Cond.fieldLink RL 54 RX4 "power" "I" ∈ gA := gA_of (tb_2 202 rfl) rfl
set_option maxRecDepth 8000 in
theorem g_456 : Cond.fieldLink RX4 13 RX4 "holds" "[I" ∈ gA := gA_of (tb_2 203 rfl) rfl
set_option maxRecDepth 8000 in
theorem g_457 : Cond.fieldLink RX3 44 RX4 "holds" "[I" ∈ gA := gA_of (tb_2 204 rfl) rfl
set_option maxRecDepth 8000 in
theorem g_458 : Cond.fieldLink RX3 54 RX4 "prop" "I" ∈ gA := gA_of (tb_2 205 rfl) rfl
set_option maxRecDepth 8000 in
theorem g_459 : Cond.fieldLink RL 45 RX4 "prop" "I" ∈ gA := gA_of (tb_2 206 rfl) rfl
set_option maxRecDepth 8000 in
theorem g_460 : Cond.lays RX4 RX4 "weight" "I" ∈ gA := gA_of (tb_2 207 rfl) rfl
set_option maxRecDepth 8000 in
theorem g_461 : Cond.soleField RX4 "weight" ∈ gA := gA_of (tb_2 208 rfl) rfl
set_option maxRecDepth 8000 in
theorem g_462 : Cond.lays RX4 RX4 "strength" "I" ∈ gA := gA_of (tb_2 209 rfl) rfl
set_option maxRecDepth 8000 in
theorem g_463 : Cond.soleField RX4 "strength" ∈ gA := gA_of (tb_2 210 rfl) rfl
set_option maxRecDepth 8000 in
theorem g_464 : Cond.lays RX4 RX4 "hangs" "Z" ∈ gA := gA_of (tb_2 211 rfl) rfl
set_option maxRecDepth 8000 in
theorem g_465 : Cond.soleField RX4 "hangs" ∈ gA := gA_of (tb_2 212 rfl) rfl
set_option maxRecDepth 8000 in
theorem g_466 : Cond.lays RX4 RX4 "power" "I" ∈ gA := gA_of (tb_2 213 rfl) rfl
set_option maxRecDepth 8000 in
theorem g_467 : Cond.soleField RX4 "power" ∈ gA := gA_of (tb_2 214 rfl) rfl
set_option maxRecDepth 8000 in
theorem g_468 : Cond.lays RX4 RX4 "holds" "[I" ∈ gA := gA_of (tb_2 215 rfl) rfl
set_option maxRecDepth 8000 in
theorem g_469 : Cond.soleField RX4 "holds" ∈ gA := gA_of (tb_2 216 rfl) rfl
set_option maxRecDepth 8000 in
theorem g_470 : Cond.lays RX4 RX4 "prop" "I" ∈ gA := gA_of (tb_2 217 rfl) rfl
set_option maxRecDepth 8000 in
theorem g_471 : Cond.soleField RX4 "prop" ∈ gA := gA_of (tb_2 218 rfl) rfl
set_option maxRecDepth 8000 in
theorem g_472 : Cond.superclass RX4 "java/lang/Object" ∈ gA := gA_of (tb_2 219 rfl) rfl
set_option maxRecDepth 8000 in
theorem g_473 : Cond.methodLink RL 25 yX2_conjure ∈ gA := gA_of (tb_2 220 rfl) rfl
set_option maxRecDepth 8000 in
theorem g_474 : Cond.instanceMethod yX2_conjure ∈ gA := gA_of (tb_2 221 rfl) rfl
set_option maxRecDepth 8000 in
theorem g_475 : Cond.selects RX2 yX2_conjure yX2_conjure ∈ gA := gA_of (tb_2 222 rfl) rfl
set_option maxRecDepth 8000 in
theorem g_476 : Cond.code yX2_conjure cX2_conjure 5 (some .int) ∈ gA := gA_of (tb_2 223 rfl) rfl
set_option maxRecDepth 8000 in
theorem g_477 : Cond.methodLink RX2 26 yX2_isBody ∈ gA := gA_of (tb_2 224 rfl) rfl
set_option maxRecDepth 8000 in
theorem g_478 : Cond.static yX2_isBody ∈ gA := gA_of (tb_2 225 rfl) rfl
set_option maxRecDepth 8000 in
theorem g_479 : Cond.code yX2_isBody cX2_isBody 2 (some .boolean) ∈ gA := gA_of (tb_2 226 rfl) rfl
set_option maxRecDepth 8000 in
theorem t_480 : Cond.stringRef RX2 36 "no such weight, strength or power" ∈ lw_tbl := tb_2 227 rfl
set_option maxRecDepth 8000 in
theorem g_481 : Cond.methodLink RX2 41 yX1_isFull ∈ gA := gA_of (tb_2 228 rfl) rfl
set_option maxRecDepth 8000 in
theorem g_482 : Cond.instanceMethod yX1_isFull ∈ gA := gA_of (tb_2 229 rfl) rfl
set_option maxRecDepth 8000 in
theorem g_483 : Cond.selects RX1 yX1_isFull yX1_isFull ∈ gA := gA_of (tb_2 230 rfl) rfl
set_option maxRecDepth 8000 in
theorem g_484 : Cond.code yX1_isFull cX1_isFull 1 (some .boolean) ∈ gA := gA_of (tb_2 231 rfl) rfl
set_option maxRecDepth 8000 in
theorem g_485 : Cond.classLink RX2 45 "java/lang/IllegalStateException" ∈ gA := gA_of (tb_2 232 rfl) rfl
set_option maxRecDepth 8000 in
theorem g_486 : Cond.instantiable "java/lang/IllegalStateException" 6 ∈ gA := gA_of (tb_2 233 rfl) rfl
set_option maxRecDepth 8000 in
theorem t_487 : Cond.castable "java/lang/IllegalStateException" "java/lang/IllegalStateException" ∈ lw_tbl := tb_2 234 rfl
set_option maxRecDepth 8000 in
theorem g_488 : Cond.selects "java/lang/IllegalStateException" ⟨"java/lang/Throwable", "fillInStackTrace", "(I)Ljava/lang/Throwable;"⟩ ⟨"java/lang/Throwable", "fillInStackTrace", "(I)Ljava/lang/Throwable;"⟩ ∈ gA := gA_of (tb_2 235 rfl) rfl
set_option maxRecDepth 8000 in
theorem g_489 : Cond.lays "java/lang/IllegalStateException" "java/lang/Throwable" "cause" "Ljava/lang/Throwable;" ∈ gA := gA_of (tb_2 236 rfl) rfl
set_option maxRecDepth 8000 in
theorem g_490 : Cond.lays "java/lang/IllegalStateException" "java/lang/Throwable" "stackTrace" "[Ljava/lang/StackTraceElement;" ∈ gA := gA_of (tb_2 237 rfl) rfl
set_option maxRecDepth 8000 in
theorem g_491 : Cond.lays "java/lang/IllegalStateException" "java/lang/Throwable" "suppressedExceptions" "Ljava/util/List;" ∈ gA := gA_of (tb_2 238 rfl) rfl
set_option maxRecDepth 8000 in
theorem g_492 : Cond.lays "java/lang/IllegalStateException" "java/lang/Throwable" "detailMessage" "Ljava/lang/String;" ∈ gA := gA_of (tb_2 239 rfl) rfl
set_option maxRecDepth 8000 in
theorem g_493 : Cond.lays "java/lang/IllegalStateException" "java/lang/Throwable" "backtrace" "Ljava/lang/Object;" ∈ gA := gA_of (tb_3 0 rfl) rfl
set_option maxRecDepth 8000 in
theorem t_494 : Cond.stringRef RX2 47 "no more stones" ∈ lw_tbl := tb_3 1 rfl
set_option maxRecDepth 8000 in
theorem g_495 : Cond.methodLink RX2 49 ⟨"java/lang/IllegalStateException", "<init>", "(Ljava/lang/String;)V"⟩ ∈ gA := gA_of (tb_3 2 rfl) rfl
set_option maxRecDepth 8000 in
theorem g_496 : Cond.instanceMethod ⟨"java/lang/IllegalStateException", "<init>", "(Ljava/lang/String;)V"⟩ ∈ gA := gA_of (tb_3 3 rfl) rfl
set_option maxRecDepth 8000 in
theorem g_497 : Cond.code ⟨"java/lang/IllegalStateException", "<init>", "(Ljava/lang/String;)V"⟩ prog_10_method_2_code 2 none ∈ gA := gA_of (tb_3 4 rfl) rfl
set_option maxRecDepth 8000 in
theorem g_498 : Cond.methodLink "java/lang/IllegalStateException" 7 ⟨"java/lang/RuntimeException", "<init>", "(Ljava/lang/String;)V"⟩ ∈ gA := gA_of (tb_3 5 rfl) rfl
set_option maxRecDepth 8000 in
theorem g_499 : Cond.lays "java/lang/IllegalStateException" "java/lang/Throwable" "depth" "I" ∈ gA := gA_of (tb_3 6 rfl) rfl
set_option maxRecDepth 8000 in
theorem g_500 : Cond.superclass "java/lang/IllegalStateException" "java/lang/RuntimeException" ∈ gA := gA_of (tb_3 7 rfl) rfl
set_option maxRecDepth 8000 in
theorem g_501 : Cond.methodLink RX2 50 yX1_addBySpell ∈ gA := gA_of (tb_3 8 rfl) rfl
set_option maxRecDepth 8000 in
theorem g_502 : Cond.instanceMethod yX1_addBySpell ∈ gA := gA_of (tb_3 9 rfl) rfl
set_option maxRecDepth 8000 in
theorem g_503 : Cond.selects RX1 yX1_addBySpell yX1_addBySpell ∈ gA := gA_of (tb_3 10 rfl) rfl
set_option maxRecDepth 8000 in
theorem g_504 : Cond.code yX1_addBySpell cX1_addBySpell 5 (some .int) ∈ gA := gA_of (tb_3 11 rfl) rfl
set_option maxRecDepth 8000 in
theorem g_505 : Cond.methodLink RX1 48 yX1_addByHolds ∈ gA := gA_of (tb_3 12 rfl) rfl
set_option maxRecDepth 8000 in
theorem g_506 : Cond.instanceMethod yX1_addByHolds ∈ gA := gA_of (tb_3 13 rfl) rfl
set_option maxRecDepth 8000 in
theorem g_507 : Cond.selects RX1 yX1_addByHolds yX1_addByHolds ∈ gA := gA_of (tb_3 14 rfl) rfl
set_option maxRecDepth 8000 in
theorem g_508 : Cond.code yX1_addByHolds cX1_addByHolds 6 (some .int) ∈ gA := gA_of (tb_3 15 rfl) rfl
set_option maxRecDepth 8000 in
theorem g_509 : Cond.methodLink RX1 52 yX1_isFull ∈ gA := gA_of (tb_3 16 rfl) rfl
set_option maxRecDepth 8000 in
theorem g_510 : Cond.methodLink RX2 54 yX1_giveWay ∈ gA := gA_of (tb_3 17 rfl) rfl
set_option maxRecDepth 8000 in
theorem g_511 : Cond.methodLink RL 37 yX2_hang ∈ gA := gA_of (tb_3 18 rfl) rfl
set_option maxRecDepth 8000 in
theorem g_512 : Cond.instanceMethod yX2_hang ∈ gA := gA_of (tb_3 19 rfl) rfl
set_option maxRecDepth 8000 in
theorem g_513 : Cond.selects RX2 yX2_hang yX2_hang ∈ gA := gA_of (tb_3 20 rfl) rfl
set_option maxRecDepth 8000 in
theorem g_514 : Cond.code yX2_hang cX2_hang 6 (some .int) ∈ gA := gA_of (tb_3 21 rfl) rfl
set_option maxRecDepth 8000 in
theorem t_515 : Cond.stringRef RX2 57 "no such weight or strength, or both stones are the same" ∈ lw_tbl := tb_3 22 rfl
set_option maxRecDepth 8000 in
theorem t_516 : Cond.stringRef RX2 71 "no more stones, or one of them has fallen" ∈ lw_tbl := tb_3 23 rfl
set_option maxRecDepth 8000 in
theorem g_517 : Cond.methodLink RX2 73 yX1_addByHolds ∈ gA := gA_of (tb_3 24 rfl) rfl
set_option maxRecDepth 8000 in
theorem g_518 : Cond.methodLink RL 41 yX3_hanging ∈ gA := gA_of (tb_3 25 rfl) rfl
set_option maxRecDepth 8000 in
theorem g_519 : Cond.methodLink RL 49 yX3_giveWay ∈ gA := gA_of (tb_3 26 rfl) rfl
set_option maxRecDepth 8000 in
theorem g_520 : Cond.methodLink RL 52 yX2_prop ∈ gA := gA_of (tb_3 27 rfl) rfl
set_option maxRecDepth 8000 in
theorem g_521 : Cond.instanceMethod yX2_prop ∈ gA := gA_of (tb_3 28 rfl) rfl
set_option maxRecDepth 8000 in
theorem g_522 : Cond.selects RX2 yX2_prop yX2_prop ∈ gA := gA_of (tb_3 29 rfl) rfl
set_option maxRecDepth 8000 in
theorem g_523 : Cond.code yX2_prop cX2_prop 4 (some .int) ∈ gA := gA_of (tb_3 30 rfl) rfl
set_option maxRecDepth 8000 in
theorem t_524 : Cond.stringRef RX2 77 "no such prop" ∈ lw_tbl := tb_3 31 rfl
set_option maxRecDepth 8000 in
theorem t_525 : Cond.stringRef RX2 79 "it has fallen" ∈ lw_tbl := tb_3 32 rfl
set_option maxRecDepth 8000 in
theorem g_526 : Cond.methodLink RX2 85 yX1_setProp ∈ gA := gA_of (tb_3 33 rfl) rfl
set_option maxRecDepth 8000 in
theorem g_527 : Cond.instanceMethod yX1_setProp ∈ gA := gA_of (tb_3 34 rfl) rfl
set_option maxRecDepth 8000 in
theorem g_528 : Cond.selects RX1 yX1_setProp yX1_setProp ∈ gA := gA_of (tb_3 35 rfl) rfl
set_option maxRecDepth 8000 in
theorem g_529 : Cond.code yX1_setProp cX1_setProp 3 none ∈ gA := gA_of (tb_3 36 rfl) rfl
set_option maxRecDepth 8000 in
theorem g_530 : Cond.methodLink RL 57 yX3_reckon ∈ gA := gA_of (tb_3 37 rfl) rfl
set_option maxRecDepth 8000 in
theorem g_531 : Cond.methodLink RL 61 yX2_renew ∈ gA := gA_of (tb_3 38 rfl) rfl
set_option maxRecDepth 8000 in
theorem g_532 : Cond.instanceMethod yX2_renew ∈ gA := gA_of (tb_3 39 rfl) rfl
set_option maxRecDepth 8000 in
theorem g_533 : Cond.selects RX2 yX2_renew yX2_renew ∈ gA := gA_of (tb_3 40 rfl) rfl
set_option maxRecDepth 8000 in
theorem g_534 : Cond.code yX2_renew cX2_renew 4 (some .int) ∈ gA := gA_of (tb_3 41 rfl) rfl
set_option maxRecDepth 8000 in
theorem t_535 : Cond.stringRef RX2 89 "no such power" ∈ lw_tbl := tb_3 42 rfl
set_option maxRecDepth 8000 in
theorem g_536 : Cond.methodLink RX2 91 yX1_hasSpell ∈ gA := gA_of (tb_3 43 rfl) rfl
set_option maxRecDepth 8000 in
theorem g_537 : Cond.instanceMethod yX1_hasSpell ∈ gA := gA_of (tb_3 44 rfl) rfl
set_option maxRecDepth 8000 in
theorem g_538 : Cond.selects RX1 yX1_hasSpell yX1_hasSpell ∈ gA := gA_of (tb_3 45 rfl) rfl
set_option maxRecDepth 8000 in
theorem g_539 : Cond.code yX1_hasSpell cX1_hasSpell 2 (some .boolean) ∈ gA := gA_of (tb_3 46 rfl) rfl
set_option maxRecDepth 8000 in
theorem t_540 : Cond.stringRef RX2 98 "it does not hang by a spell, or the power is less than its load" ∈ lw_tbl := tb_3 47 rfl
set_option maxRecDepth 8000 in
theorem g_541 : Cond.classLink RL 68 "[I" ∈ gA := gA_of (tb_3 48 rfl) rfl
set_option maxRecDepth 8000 in
theorem g_542 : Cond.methodLink RL 70 yX2_stair ∈ gA := gA_of (tb_3 49 rfl) rfl
set_option maxRecDepth 8000 in
theorem g_543 : Cond.instanceMethod yX2_stair ∈ gA := gA_of (tb_3 50 rfl) rfl
set_option maxRecDepth 8000 in
theorem g_544 : Cond.selects RX2 yX2_stair yX2_stair ∈ gA := gA_of (tb_3 51 rfl) rfl
set_option maxRecDepth 8000 in
theorem g_545 : Cond.code yX2_stair cX2_stair 3 (some .int) ∈ gA := gA_of (tb_3 52 rfl) rfl
set_option maxRecDepth 8000 in
theorem t_546 : Cond.stringRef RX2 103 "both are the same" ∈ lw_tbl := tb_3 53 rfl
set_option maxRecDepth 8000 in
theorem g_547 : Cond.methodLink RX2 105 yX0_isFull ∈ gA := gA_of (tb_3 54 rfl) rfl
set_option maxRecDepth 8000 in
theorem g_548 : Cond.instanceMethod yX0_isFull ∈ gA := gA_of (tb_3 55 rfl) rfl
set_option maxRecDepth 8000 in
theorem g_549 : Cond.selects RX0 yX0_isFull yX0_isFull ∈ gA := gA_of (tb_3 56 rfl) rfl
set_option maxRecDepth 8000 in
theorem g_550 : Cond.code yX0_isFull cX0_isFull 1 (some .boolean) ∈ gA := gA_of (tb_3 57 rfl) rfl
set_option maxRecDepth 8000 in
theorem t_551 : Cond.stringRef RX2 106 "no more stairs, or one of them has fallen" ∈ lw_tbl := tb_3 58 rfl
set_option maxRecDepth 8000 in
theorem g_552 : Cond.methodLink RX2 108 yX0_add ∈ gA := gA_of (tb_3 59 rfl) rfl
set_option maxRecDepth 8000 in
theorem g_553 : Cond.instanceMethod yX0_add ∈ gA := gA_of (tb_3 60 rfl) rfl
set_option maxRecDepth 8000 in
theorem g_554 : Cond.selects RX0 yX0_add yX0_add ∈ gA := gA_of (tb_3 61 rfl) rfl
set_option maxRecDepth 8000 in
theorem g_555 : Cond.code yX0_add cX0_add 4 (some .int) ∈ gA := gA_of (tb_3 62 rfl) rfl
set_option maxRecDepth 8000 in
theorem g_556 : Cond.methodLink RX0 34 yX0_isFull ∈ gA := gA_of (tb_3 63 rfl) rfl
set_option maxRecDepth 8000 in
theorem g_557 : Cond.methodLink RL 73 yX2_swap ∈ gA := gA_of (tb_3 64 rfl) rfl
set_option maxRecDepth 8000 in
theorem g_558 : Cond.instanceMethod yX2_swap ∈ gA := gA_of (tb_3 65 rfl) rfl
set_option maxRecDepth 8000 in
theorem g_559 : Cond.selects RX2 yX2_swap yX2_swap ∈ gA := gA_of (tb_3 66 rfl) rfl
set_option maxRecDepth 8000 in
theorem g_560 : Cond.code yX2_swap cX2_swap 3 (some .boolean) ∈ gA := gA_of (tb_3 67 rfl) rfl
set_option maxRecDepth 8000 in
theorem t_561 : Cond.stringRef RX2 113 "no such stair" ∈ lw_tbl := tb_3 68 rfl
set_option maxRecDepth 8000 in
theorem g_562 : Cond.methodLink RX2 115 yX0_isGone ∈ gA := gA_of (tb_3 69 rfl) rfl
set_option maxRecDepth 8000 in
theorem t_563 : Cond.stringRef RX2 119 "one of them is gone" ∈ lw_tbl := tb_3 70 rfl
set_option maxRecDepth 8000 in
theorem g_564 : Cond.methodLink RX2 121 yX0_exchangeEnds ∈ gA := gA_of (tb_3 71 rfl) rfl
set_option maxRecDepth 8000 in
theorem g_565 : Cond.instanceMethod yX0_exchangeEnds ∈ gA := gA_of (tb_3 72 rfl) rfl
set_option maxRecDepth 8000 in
theorem g_566 : Cond.selects RX0 yX0_exchangeEnds yX0_exchangeEnds ∈ gA := gA_of (tb_3 73 rfl) rfl
set_option maxRecDepth 8000 in
theorem g_567 : Cond.code yX0_exchangeEnds cX0_exchangeEnds 4 (some .boolean) ∈ gA := gA_of (tb_3 74 rfl) rfl
set_option maxRecDepth 8000 in
theorem g_568 : Cond.methodLink RL 87 yL_build ∈ gA := gA_of (tb_3 75 rfl) rfl
set_option maxRecDepth 8000 in
theorem g_569 : Cond.static yL_build ∈ gA := gA_of (tb_3 76 rfl) rfl
set_option maxRecDepth 8000 in
theorem g_570 : Cond.code yL_build cL_build 4 (Option.some (.object RX3)) ∈ gA := gA_of (tb_3 77 rfl) rfl
set_option maxRecDepth 8000 in
theorem g_571 : Cond.classLink RL 10 RX3 ∈ gA := gA_of (tb_3 78 rfl) rfl
set_option maxRecDepth 8000 in
theorem g_572 : Cond.instantiable RX3 3 ∈ gA := gA_of (tb_3 79 rfl) rfl
set_option maxRecDepth 8000 in
theorem t_573 : Cond.methodLinkNest RL 77 yX3_init RL ∈ lw_tbl := tb_3 80 rfl
set_option maxRecDepth 8000 in
theorem g_574 : Cond.instanceMethod yX3_init ∈ gA := gA_of (tb_3 81 rfl) rfl
set_option maxRecDepth 8000 in
theorem g_575 : Cond.code yX3_init cX3_init 1 none ∈ gA := gA_of (tb_3 82 rfl) rfl
set_option maxRecDepth 8000 in
theorem g_576 : Cond.methodLink RX3 1 ⟨"java/lang/Object", "<init>", "()V"⟩ ∈ gA := gA_of (tb_3 83 rfl) rfl
set_option maxRecDepth 8000 in
theorem g_577 : Cond.fieldLink RX3 9 RX3 "stones" "[LTowerDownLaw$Stone;" ∈ gA := gA_of (tb_3 84 rfl) rfl
set_option maxRecDepth 8000 in
theorem g_578 : Cond.fieldLink RL 9 RX3 "stones" "[LTowerDownLaw$Stone;" ∈ gA := gA_of (tb_3 85 rfl) rfl
set_option maxRecDepth 8000 in
theorem g_579 : Cond.fieldLink RX3 17 RX3 "stairs" "[[I" ∈ gA := gA_of (tb_3 86 rfl) rfl
set_option maxRecDepth 8000 in
theorem g_580 : Cond.fieldLink RL 64 RX3 "stairs" "[[I" ∈ gA := gA_of (tb_3 87 rfl) rfl
set_option maxRecDepth 8000 in
theorem g_581 : Cond.fieldLink RX3 30 RX3 "day" "I" ∈ gA := gA_of (tb_3 88 rfl) rfl
set_option maxRecDepth 8000 in
theorem g_582 : Cond.lays RX3 RX3 "stones" "[LTowerDownLaw$Stone;" ∈ gA := gA_of (tb_3 89 rfl) rfl
set_option maxRecDepth 8000 in
theorem g_583 : Cond.soleField RX3 "stones" ∈ gA := gA_of (tb_3 90 rfl) rfl
set_option maxRecDepth 8000 in
theorem g_584 : Cond.lays RX3 RX3 "stairs" "[[I" ∈ gA := gA_of (tb_3 91 rfl) rfl
set_option maxRecDepth 8000 in
theorem g_585 : Cond.soleField RX3 "stairs" ∈ gA := gA_of (tb_3 92 rfl) rfl
set_option maxRecDepth 8000 in
theorem g_586 : Cond.lays RX3 RX3 "day" "I" ∈ gA := gA_of (tb_3 93 rfl) rfl
set_option maxRecDepth 8000 in
theorem g_587 : Cond.soleField RX3 "day" ∈ gA := gA_of (tb_3 94 rfl) rfl
set_option maxRecDepth 8000 in
theorem g_588 : Cond.superclass RX3 "java/lang/Object" ∈ gA := gA_of (tb_3 95 rfl) rfl
set_option maxRecDepth 8000 in
theorem g_589 : Cond.methodLink RL 126 ⟨"java/lang/Math", "abs", "(I)I"⟩ ∈ gA := gA_of (tb_3 96 rfl) rfl
set_option maxRecDepth 8000 in
theorem g_590 : Cond.static ⟨"java/lang/Math", "abs", "(I)I"⟩ ∈ gA := gA_of (tb_3 97 rfl) rfl
set_option maxRecDepth 8000 in
theorem g_591 : Cond.code ⟨"java/lang/Math", "abs", "(I)I"⟩ prog_12_method_59_code 1 (some .int) ∈ gA := gA_of (tb_3 98 rfl) rfl
set_option maxRecDepth 8000 in
theorem g_592 : Cond.methodLink RL 115 ⟨"java/lang/Math", "max", "(II)I"⟩ ∈ gA := gA_of (tb_3 99 rfl) rfl
set_option maxRecDepth 8000 in
theorem g_593 : Cond.sameMethod "java/lang/Throwable" "java/lang/Throwable" "fillInStackTrace" "(I)Ljava/lang/Throwable;" ∈ gA := gA_of (tb_3 100 rfl) rfl
