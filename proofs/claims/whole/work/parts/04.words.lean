/-- all words of the tables that hold in every later state -/
def gA : List Cond := lw_tbl.filter goodWord
theorem gA_tbl {w : Cond} (h : w ∈ gA) : w ∈ lw_tbl := (List.mem_filter.mp h).1
theorem gA_g {w : Cond} (h : w ∈ gA) : goodWord w = true := (List.mem_filter.mp h).2
abbrev wsY (y : MethodName) (b : ByteArray) (mL : Nat) (ret : Option FieldType) : List Cond := Cond.code y b mL ret :: gA
theorem gA_good {y : MethodName} {b : ByteArray} {mL : Nat} {ret : Option FieldType} (h : Cond.code y b mL ret ∈ gA) : GoodIn gA (wsY y b mL ret) := fun w hw => by
  rcases List.mem_cons.mp hw with rfl | hw
  · exact ⟨h, good_of_word (gA_g h)⟩
  · exact ⟨hw, good_of_word (gA_g hw)⟩
theorem tb_0 {w : Cond} (i : Nat) (h : (k2_sels lw_privs)[i]? = some w) : w ∈ lw_tbl := List.mem_append_left _ (List.mem_of_getElem? h)
theorem tb_1 {w : Cond} (i : Nat) (h : tables_1_1[i]? = some w) : w ∈ lw_tbl := List.mem_append_right _ (List.mem_append_left _ (List.mem_of_getElem? h))
theorem tb_2 {w : Cond} (i : Nat) (h : tables_1_2[i]? = some w) : w ∈ lw_tbl := List.mem_append_right _ (List.mem_append_right _ (List.mem_append_left _ (List.mem_of_getElem? h)))
theorem tb_3 {w : Cond} (i : Nat) (h : tables_1_3[i]? = some w) : w ∈ lw_tbl := List.mem_append_right _ (List.mem_append_right _ (List.mem_append_right _ (List.mem_append_left _ (List.mem_of_getElem? h))))
theorem tb_4 {w : Cond} (i : Nat) (h : tables_1_4[i]? = some w) : w ∈ lw_tbl := List.mem_append_right _ (List.mem_append_right _ (List.mem_append_right _ (List.mem_append_right _ (List.mem_of_getElem? h))))
theorem gA_of {w : Cond} (h : w ∈ lw_tbl) (hg : goodWord w = true) : w ∈ gA := List.mem_filter.mpr ⟨h, hg⟩
set_option maxRecDepth 8000 in
theorem g_0 : Cond.selects RX2 yX2_tellSky yX2_tellSky ∈ gA := gA_of (tb_0 0 rfl) rfl
set_option maxRecDepth 8000 in
theorem g_1 : Cond.selects RX1 yX1_countHeldBy yX1_countHeldBy ∈ gA := gA_of (tb_0 1 rfl) rfl
set_option maxRecDepth 8000 in
theorem g_2 : Cond.selects "java/lang/Throwable" ⟨"java/lang/Throwable", "fillInStackTrace", "(I)Ljava/lang/Throwable;"⟩ ⟨"java/lang/Throwable", "fillInStackTrace", "(I)Ljava/lang/Throwable;"⟩ ∈ gA := gA_of (tb_0 2 rfl) rfl
set_option maxRecDepth 8000 in
theorem g_3 : Cond.selects RX1 yX1_measure yX1_measure ∈ gA := gA_of (tb_0 3 rfl) rfl
set_option maxRecDepth 8000 in
theorem g_4 : Cond.selects RX1 yX1_bear yX1_bear ∈ gA := gA_of (tb_0 4 rfl) rfl
set_option maxRecDepth 8000 in
theorem g_5 : Cond.selects RX1 yX1_tearOverpulled yX1_tearOverpulled ∈ gA := gA_of (tb_0 5 rfl) rfl
set_option maxRecDepth 8000 in
theorem g_6 : Cond.selects RX1 yX1_tearHoldsFrom yX1_tearHoldsFrom ∈ gA := gA_of (tb_0 6 rfl) rfl
set_option maxRecDepth 8000 in
theorem g_7 : Cond.selects RX1 yX1_endOverloaded yX1_endOverloaded ∈ gA := gA_of (tb_0 7 rfl) rfl
set_option maxRecDepth 8000 in
theorem g_8 : Cond.selects RX1 yX1_endSpell yX1_endSpell ∈ gA := gA_of (tb_0 8 rfl) rfl
set_option maxRecDepth 8000 in
theorem g_9 : Cond.selects RX1 yX1_dropLoose yX1_dropLoose ∈ gA := gA_of (tb_0 9 rfl) rfl
set_option maxRecDepth 8000 in
theorem g_10 : Cond.selects RX0 yX0_reachFrom yX0_reachFrom ∈ gA := gA_of (tb_0 10 rfl) rfl
set_option maxRecDepth 8000 in
theorem g_11 : Cond.selects RX0 yX0_stepOver yX0_stepOver ∈ gA := gA_of (tb_0 11 rfl) rfl
set_option maxRecDepth 8000 in
theorem g_12 : Cond.selects RX1 yX1_fade yX1_fade ∈ gA := gA_of (tb_0 12 rfl) rfl
set_option maxRecDepth 8000 in
theorem g_13 : Cond.selects RX2 yX2_leftWith yX2_leftWith ∈ gA := gA_of (tb_0 13 rfl) rfl
set_option maxRecDepth 8000 in
theorem g_14 : Cond.selects RX3 yX3_fail yX3_fail ∈ gA := gA_of (tb_0 14 rfl) rfl
set_option maxRecDepth 8000 in
theorem g_15 : Cond.selects RX3 yX3_stone yX3_stone ∈ gA := gA_of (tb_0 15 rfl) rfl
set_option maxRecDepth 8000 in
theorem g_16 : Cond.selects RX3 yX3_giveWay yX3_giveWay ∈ gA := gA_of (tb_0 16 rfl) rfl
set_option maxRecDepth 8000 in
theorem g_17 : Cond.selects RX3 yX3_reckon yX3_reckon ∈ gA := gA_of (tb_0 17 rfl) rfl
set_option maxRecDepth 8000 in
theorem g_18 : Cond.selects RX3 yX3_hangs yX3_hangs ∈ gA := gA_of (tb_0 18 rfl) rfl
set_option maxRecDepth 8000 in
theorem g_19 : Cond.selects RX3 yX3_to yX3_to ∈ gA := gA_of (tb_0 19 rfl) rfl
set_option maxRecDepth 8000 in
theorem g_20 : Cond.selects RX3 yX3_tear yX3_tear ∈ gA := gA_of (tb_0 20 rfl) rfl
set_option maxRecDepth 8000 in
theorem g_21 : Cond.selects RX3 yX3_isHeldBy yX3_isHeldBy ∈ gA := gA_of (tb_0 21 rfl) rfl
set_option maxRecDepth 8000 in
theorem g_22 : Cond.selects RX3 yX3_put yX3_put ∈ gA := gA_of (tb_0 22 rfl) rfl
set_option maxRecDepth 8000 in
theorem g_23 : Cond.selects RX3 yX3_drop yX3_drop ∈ gA := gA_of (tb_0 23 rfl) rfl
set_option maxRecDepth 8000 in
theorem g_24 : Cond.selects RX3 yX3_fall yX3_fall ∈ gA := gA_of (tb_0 24 rfl) rfl
set_option maxRecDepth 8000 in
theorem g_25 : Cond.selects RX3 yX3_st yX3_st ∈ gA := gA_of (tb_0 25 rfl) rfl
set_option maxRecDepth 8000 in
theorem g_26 : Cond.selects RX3 yX3_isStone yX3_isStone ∈ gA := gA_of (tb_0 26 rfl) rfl
set_option maxRecDepth 8000 in
theorem g_27 : Cond.selects RX3 yX3_hanging yX3_hanging ∈ gA := gA_of (tb_0 27 rfl) rfl
set_option maxRecDepth 8000 in
theorem g_28 : Cond.selects RX3 yX3_isStair yX3_isStair ∈ gA := gA_of (tb_0 28 rfl) rfl
set_option maxRecDepth 8000 in
theorem g_29 : Cond.selects RX3 yX3_stoneTold yX3_stoneTold ∈ gA := gA_of (tb_0 29 rfl) rfl
set_option maxRecDepth 8000 in
theorem g_30 : Cond.selects RX3 yX3_holdsFrom yX3_holdsFrom ∈ gA := gA_of (tb_0 30 rfl) rfl
set_option maxRecDepth 8000 in
theorem g_31 : Cond.selects RX3 yX3_counted yX3_counted ∈ gA := gA_of (tb_0 31 rfl) rfl
set_option maxRecDepth 8000 in
theorem g_32 : Cond.selects RX3 yX3_daysOn yX3_daysOn ∈ gA := gA_of (tb_0 32 rfl) rfl
set_option maxRecDepth 8000 in
theorem g_33 : Cond.selects RX3 yX3_dayOn yX3_dayOn ∈ gA := gA_of (tb_0 33 rfl) rfl
set_option maxRecDepth 8000 in
theorem g_34 : Cond.selects RX3 yX3_kept yX3_kept ∈ gA := gA_of (tb_0 34 rfl) rfl
set_option maxRecDepth 8000 in
theorem g_35 : Cond.selects RX3 yX3_bringBack yX3_bringBack ∈ gA := gA_of (tb_0 35 rfl) rfl
set_option maxRecDepth 8000 in
theorem g_36 : Cond.initialized RL ∈ gA := gA_of (tb_1 0 rfl) rfl
set_option maxRecDepth 8000 in
theorem g_37 : Cond.initialized RX2 ∈ gA := gA_of (tb_1 1 rfl) rfl
set_option maxRecDepth 8000 in
theorem g_38 : Cond.initialized RX1 ∈ gA := gA_of (tb_1 2 rfl) rfl
set_option maxRecDepth 8000 in
theorem g_39 : Cond.initialized RX0 ∈ gA := gA_of (tb_1 3 rfl) rfl
set_option maxRecDepth 8000 in
theorem g_40 : Cond.initialized RX3 ∈ gA := gA_of (tb_1 4 rfl) rfl
set_option maxRecDepth 8000 in
theorem g_41 : Cond.initialized "java/lang/Throwable" ∈ gA := gA_of (tb_1 5 rfl) rfl
set_option maxRecDepth 8000 in
theorem g_42 : Cond.initialized "java/lang/Exception" ∈ gA := gA_of (tb_1 6 rfl) rfl
set_option maxRecDepth 8000 in
theorem g_43 : Cond.initialized "java/lang/RuntimeException" ∈ gA := gA_of (tb_1 7 rfl) rfl
set_option maxRecDepth 8000 in
theorem g_44 : Cond.initialized "java/lang/IllegalArgumentException" ∈ gA := gA_of (tb_1 8 rfl) rfl
set_option maxRecDepth 8000 in
theorem g_45 : Cond.initialized "java/lang/IllegalStateException" ∈ gA := gA_of (tb_1 9 rfl) rfl
set_option maxRecDepth 8000 in
theorem g_46 : Cond.initialized "java/lang/Math" ∈ gA := gA_of (tb_1 10 rfl) rfl
set_option maxRecDepth 8000 in
theorem g_47 : Cond.initialized "java/lang/System" ∈ gA := gA_of (tb_1 11 rfl) rfl
set_option maxRecDepth 8000 in
theorem g_48 : Cond.initialized "java/lang/IndexOutOfBoundsException" ∈ gA := gA_of (tb_1 12 rfl) rfl
set_option maxRecDepth 8000 in
theorem g_49 : Cond.classLink RL 8 RX2 ∈ gA := gA_of (tb_1 13 rfl) rfl
set_option maxRecDepth 8000 in
theorem g_50 : Cond.instantiable RX2 3 ∈ gA := gA_of (tb_1 14 rfl) rfl
set_option maxRecDepth 8000 in
theorem g_51 : Cond.methodLink RL 68 yX2_init ∈ gA := gA_of (tb_1 15 rfl) rfl
set_option maxRecDepth 8000 in
theorem g_52 : Cond.instanceMethod yX2_init ∈ gA := gA_of (tb_1 16 rfl) rfl
set_option maxRecDepth 8000 in
theorem g_53 : Cond.code yX2_init cX2_init 1 none ∈ gA := gA_of (tb_1 17 rfl) rfl
set_option maxRecDepth 8000 in
theorem g_54 : Cond.methodLink RX2 1 ⟨"java/lang/Object", "<init>", "()V"⟩ ∈ gA := gA_of (tb_1 18 rfl) rfl
set_option maxRecDepth 8000 in
theorem g_55 : Cond.instanceMethod ⟨"java/lang/Object", "<init>", "()V"⟩ ∈ gA := gA_of (tb_1 19 rfl) rfl
set_option maxRecDepth 8000 in
theorem g_56 : Cond.code ⟨"java/lang/Object", "<init>", "()V"⟩ object_method_1_code 1 none ∈ gA := gA_of (tb_1 20 rfl) rfl
set_option maxRecDepth 8000 in
theorem g_57 : Cond.classLink RX2 7 RX1 ∈ gA := gA_of (tb_1 21 rfl) rfl
set_option maxRecDepth 8000 in
theorem g_58 : Cond.instantiable RX1 13 ∈ gA := gA_of (tb_1 22 rfl) rfl
set_option maxRecDepth 8000 in
theorem t_59 : Cond.methodLinkNest RX2 9 yX1_init RX2 ∈ lw_tbl := tb_1 23 rfl
set_option maxRecDepth 8000 in
theorem g_60 : Cond.instanceMethod yX1_init ∈ gA := gA_of (tb_1 24 rfl) rfl
set_option maxRecDepth 8000 in
theorem g_61 : Cond.code yX1_init cX1_init 1 none ∈ gA := gA_of (tb_1 25 rfl) rfl
set_option maxRecDepth 8000 in
theorem g_62 : Cond.methodLink RX1 3 ⟨"java/lang/Object", "<init>", "()V"⟩ ∈ gA := gA_of (tb_1 26 rfl) rfl
set_option maxRecDepth 8000 in
theorem g_63 : Cond.fieldLink RX1 9 RX1 "weight" "[I" ∈ gA := gA_of (tb_1 27 rfl) rfl
set_option maxRecDepth 8000 in
theorem g_64 : Cond.fieldLink RX1 15 RX1 "strength" "[I" ∈ gA := gA_of (tb_1 28 rfl) rfl
set_option maxRecDepth 8000 in
theorem g_65 : Cond.fieldLink RX1 18 RX1 "prop" "[I" ∈ gA := gA_of (tb_1 29 rfl) rfl
set_option maxRecDepth 8000 in
theorem t_66 : Cond.fieldLinkNest RX2 175 RX1 "prop" "[I" RX2 ∈ lw_tbl := tb_1 30 rfl
set_option maxRecDepth 8000 in
theorem g_67 : Cond.fieldLink RX1 21 RX1 "power" "[I" ∈ gA := gA_of (tb_1 31 rfl) rfl
set_option maxRecDepth 8000 in
theorem t_68 : Cond.fieldLinkNest RX2 100 RX1 "power" "[I" RX2 ∈ lw_tbl := tb_1 32 rfl
set_option maxRecDepth 8000 in
theorem g_69 : Cond.fieldLink RX1 24 RX1 "firstHold" "[I" ∈ gA := gA_of (tb_1 33 rfl) rfl
set_option maxRecDepth 8000 in
theorem g_70 : Cond.fieldLink RX1 27 RX1 "secondHold" "[I" ∈ gA := gA_of (tb_1 34 rfl) rfl
set_option maxRecDepth 8000 in
theorem g_71 : Cond.fieldLink RX1 30 RX1 "hangs" "[Z" ∈ gA := gA_of (tb_1 35 rfl) rfl
set_option maxRecDepth 8000 in
theorem g_72 : Cond.fieldLink RX1 34 RX1 "load" "[I" ∈ gA := gA_of (tb_1 36 rfl) rfl
set_option maxRecDepth 8000 in
theorem t_73 : Cond.fieldLinkNest RX2 94 RX1 "load" "[I" RX2 ∈ lw_tbl := tb_1 37 rfl
set_option maxRecDepth 8000 in
theorem g_74 : Cond.fieldLink RX1 37 RX1 "pull" "[I" ∈ gA := gA_of (tb_1 38 rfl) rfl
set_option maxRecDepth 8000 in
theorem g_75 : Cond.fieldLink RX1 40 RX1 "hung" "I" ∈ gA := gA_of (tb_1 39 rfl) rfl
set_option maxRecDepth 8000 in
theorem t_76 : Cond.fieldLinkNest RX2 172 RX1 "hung" "I" RX2 ∈ lw_tbl := tb_1 40 rfl
set_option maxRecDepth 8000 in
theorem t_77 : Cond.fieldLinkNest RX2 81 RX1 "hanging" "I" RX2 ∈ lw_tbl := tb_1 41 rfl
set_option maxRecDepth 8000 in
theorem g_78 : Cond.fieldLink RX1 56 RX1 "hanging" "I" ∈ gA := gA_of (tb_1 42 rfl) rfl
set_option maxRecDepth 8000 in
theorem g_79 : Cond.fieldLink RX1 63 RX1 "day" "I" ∈ gA := gA_of (tb_1 43 rfl) rfl
set_option maxRecDepth 8000 in
theorem t_80 : Cond.fieldLinkNest RX2 196 RX1 "day" "I" RX2 ∈ lw_tbl := tb_1 44 rfl
set_option maxRecDepth 8000 in
theorem g_81 : Cond.fieldLink RX1 59 RX1 "stale" "Z" ∈ gA := gA_of (tb_1 45 rfl) rfl
set_option maxRecDepth 8000 in
theorem g_82 : Cond.laysFinal RX1 RX1 "weight" "[I" ∈ gA := gA_of (tb_1 46 rfl) rfl
set_option maxRecDepth 8000 in
theorem g_83 : Cond.soleField RX1 "weight" ∈ gA := gA_of (tb_1 47 rfl) rfl
set_option maxRecDepth 8000 in
theorem g_84 : Cond.laysFinal RX1 RX1 "strength" "[I" ∈ gA := gA_of (tb_1 48 rfl) rfl
set_option maxRecDepth 8000 in
theorem g_85 : Cond.soleField RX1 "strength" ∈ gA := gA_of (tb_1 49 rfl) rfl
set_option maxRecDepth 8000 in
theorem g_86 : Cond.laysFinal RX1 RX1 "prop" "[I" ∈ gA := gA_of (tb_1 50 rfl) rfl
set_option maxRecDepth 8000 in
theorem g_87 : Cond.soleField RX1 "prop" ∈ gA := gA_of (tb_1 51 rfl) rfl
set_option maxRecDepth 8000 in
theorem g_88 : Cond.laysFinal RX1 RX1 "power" "[I" ∈ gA := gA_of (tb_1 52 rfl) rfl
set_option maxRecDepth 8000 in
theorem g_89 : Cond.soleField RX1 "power" ∈ gA := gA_of (tb_1 53 rfl) rfl
set_option maxRecDepth 8000 in
theorem g_90 : Cond.laysFinal RX1 RX1 "firstHold" "[I" ∈ gA := gA_of (tb_1 54 rfl) rfl
set_option maxRecDepth 8000 in
theorem g_91 : Cond.soleField RX1 "firstHold" ∈ gA := gA_of (tb_1 55 rfl) rfl
set_option maxRecDepth 8000 in
theorem g_92 : Cond.laysFinal RX1 RX1 "secondHold" "[I" ∈ gA := gA_of (tb_1 56 rfl) rfl
set_option maxRecDepth 8000 in
theorem g_93 : Cond.soleField RX1 "secondHold" ∈ gA := gA_of (tb_1 57 rfl) rfl
set_option maxRecDepth 8000 in
theorem g_94 : Cond.laysFinal RX1 RX1 "hangs" "[Z" ∈ gA := gA_of (tb_1 58 rfl) rfl
set_option maxRecDepth 8000 in
theorem g_95 : Cond.soleField RX1 "hangs" ∈ gA := gA_of (tb_1 59 rfl) rfl
set_option maxRecDepth 8000 in
theorem g_96 : Cond.laysFinal RX1 RX1 "load" "[I" ∈ gA := gA_of (tb_1 60 rfl) rfl
set_option maxRecDepth 8000 in
theorem g_97 : Cond.soleField RX1 "load" ∈ gA := gA_of (tb_1 61 rfl) rfl
set_option maxRecDepth 8000 in
theorem g_98 : Cond.laysFinal RX1 RX1 "pull" "[I" ∈ gA := gA_of (tb_1 62 rfl) rfl
set_option maxRecDepth 8000 in
theorem g_99 : Cond.soleField RX1 "pull" ∈ gA := gA_of (tb_1 63 rfl) rfl
set_option maxRecDepth 8000 in
theorem g_100 : Cond.lays RX1 RX1 "hung" "I" ∈ gA := gA_of (tb_1 64 rfl) rfl
set_option maxRecDepth 8000 in
theorem g_101 : Cond.soleField RX1 "hung" ∈ gA := gA_of (tb_1 65 rfl) rfl
set_option maxRecDepth 8000 in
theorem g_102 : Cond.lays RX1 RX1 "hanging" "I" ∈ gA := gA_of (tb_1 66 rfl) rfl
set_option maxRecDepth 8000 in
theorem g_103 : Cond.soleField RX1 "hanging" ∈ gA := gA_of (tb_1 67 rfl) rfl
set_option maxRecDepth 8000 in
theorem g_104 : Cond.lays RX1 RX1 "day" "I" ∈ gA := gA_of (tb_1 68 rfl) rfl
set_option maxRecDepth 8000 in
theorem g_105 : Cond.soleField RX1 "day" ∈ gA := gA_of (tb_1 69 rfl) rfl
set_option maxRecDepth 8000 in
theorem g_106 : Cond.lays RX1 RX1 "stale" "Z" ∈ gA := gA_of (tb_1 70 rfl) rfl
set_option maxRecDepth 8000 in
theorem g_107 : Cond.soleField RX1 "stale" ∈ gA := gA_of (tb_1 71 rfl) rfl
set_option maxRecDepth 8000 in
theorem g_108 : Cond.superclass RX1 "java/lang/Object" ∈ gA := gA_of (tb_1 72 rfl) rfl
set_option maxRecDepth 8000 in
theorem g_109 : Cond.arrayClass .int ∈ gA := gA_of (tb_1 73 rfl) rfl
set_option maxRecDepth 8000 in
theorem g_110 : Cond.arrayClass .boolean ∈ gA := gA_of (tb_1 74 rfl) rfl
set_option maxRecDepth 8000 in
theorem g_111 : Cond.classLink RX2 19 RX0 ∈ gA := gA_of (tb_1 75 rfl) rfl
set_option maxRecDepth 8000 in
theorem g_112 : Cond.instantiable RX0 4 ∈ gA := gA_of (tb_1 76 rfl) rfl
set_option maxRecDepth 8000 in
theorem t_113 : Cond.methodLinkNest RX2 21 yX0_init RX2 ∈ lw_tbl := tb_1 77 rfl
set_option maxRecDepth 8000 in
theorem g_114 : Cond.instanceMethod yX0_init ∈ gA := gA_of (tb_1 78 rfl) rfl
set_option maxRecDepth 8000 in
theorem g_115 : Cond.code yX0_init cX0_init 1 none ∈ gA := gA_of (tb_1 79 rfl) rfl
set_option maxRecDepth 8000 in
theorem g_116 : Cond.methodLink RX0 3 ⟨"java/lang/Object", "<init>", "()V"⟩ ∈ gA := gA_of (tb_1 80 rfl) rfl
set_option maxRecDepth 8000 in
theorem g_117 : Cond.fieldLink RX0 9 RX0 "firstEnd" "[I" ∈ gA := gA_of (tb_1 81 rfl) rfl
set_option maxRecDepth 8000 in
theorem g_118 : Cond.fieldLink RX0 15 RX0 "secondEnd" "[I" ∈ gA := gA_of (tb_1 82 rfl) rfl
set_option maxRecDepth 8000 in
theorem g_119 : Cond.fieldLink RX0 18 RX0 "distance" "[I" ∈ gA := gA_of (tb_1 83 rfl) rfl
set_option maxRecDepth 8000 in
theorem g_120 : Cond.fieldLink RX0 21 RX0 "built" "I" ∈ gA := gA_of (tb_1 84 rfl) rfl
set_option maxRecDepth 8000 in
theorem t_121 : Cond.fieldLinkNest RX2 193 RX0 "built" "I" RX2 ∈ lw_tbl := tb_1 85 rfl
set_option maxRecDepth 8000 in
theorem g_122 : Cond.laysFinal RX0 RX0 "firstEnd" "[I" ∈ gA := gA_of (tb_1 86 rfl) rfl
set_option maxRecDepth 8000 in
theorem g_123 : Cond.soleField RX0 "firstEnd" ∈ gA := gA_of (tb_1 87 rfl) rfl
set_option maxRecDepth 8000 in
theorem g_124 : Cond.laysFinal RX0 RX0 "secondEnd" "[I" ∈ gA := gA_of (tb_1 88 rfl) rfl
set_option maxRecDepth 8000 in
theorem g_125 : Cond.soleField RX0 "secondEnd" ∈ gA := gA_of (tb_1 89 rfl) rfl
set_option maxRecDepth 8000 in
theorem g_126 : Cond.laysFinal RX0 RX0 "distance" "[I" ∈ gA := gA_of (tb_1 90 rfl) rfl
set_option maxRecDepth 8000 in
theorem g_127 : Cond.soleField RX0 "distance" ∈ gA := gA_of (tb_1 91 rfl) rfl
set_option maxRecDepth 8000 in
theorem g_128 : Cond.lays RX0 RX0 "built" "I" ∈ gA := gA_of (tb_1 92 rfl) rfl
set_option maxRecDepth 8000 in
theorem g_129 : Cond.soleField RX0 "built" ∈ gA := gA_of (tb_1 93 rfl) rfl
set_option maxRecDepth 8000 in
theorem g_130 : Cond.superclass RX0 "java/lang/Object" ∈ gA := gA_of (tb_1 94 rfl) rfl
set_option maxRecDepth 8000 in
theorem g_131 : Cond.fieldLink RX2 10 RX2 "sky" "LTowerDown$Stones;" ∈ gA := gA_of (tb_1 95 rfl) rfl
set_option maxRecDepth 8000 in
theorem g_132 : Cond.fieldLink RX2 16 RX2 "trial" "LTowerDown$Stones;" ∈ gA := gA_of (tb_1 96 rfl) rfl
set_option maxRecDepth 8000 in
theorem g_133 : Cond.fieldLink RX2 22 RX2 "stairs" "LTowerDown$Stairs;" ∈ gA := gA_of (tb_1 97 rfl) rfl
set_option maxRecDepth 8000 in
theorem g_134 : Cond.laysFinal RX2 RX2 "sky" "LTowerDown$Stones;" ∈ gA := gA_of (tb_1 98 rfl) rfl
set_option maxRecDepth 8000 in
theorem g_135 : Cond.soleField RX2 "sky" ∈ gA := gA_of (tb_1 99 rfl) rfl
set_option maxRecDepth 8000 in
theorem g_136 : Cond.laysFinal RX2 RX2 "trial" "LTowerDown$Stones;" ∈ gA := gA_of (tb_1 100 rfl) rfl
set_option maxRecDepth 8000 in
theorem g_137 : Cond.soleField RX2 "trial" ∈ gA := gA_of (tb_1 101 rfl) rfl
set_option maxRecDepth 8000 in
theorem g_138 : Cond.laysFinal RX2 RX2 "stairs" "LTowerDown$Stairs;" ∈ gA := gA_of (tb_1 102 rfl) rfl
set_option maxRecDepth 8000 in
theorem g_139 : Cond.soleField RX2 "stairs" ∈ gA := gA_of (tb_1 103 rfl) rfl
set_option maxRecDepth 8000 in
theorem g_140 : Cond.superclass RX2 "java/lang/Object" ∈ gA := gA_of (tb_1 104 rfl) rfl
set_option maxRecDepth 8000 in
theorem g_141 : Cond.methodLink RL 130 yX2_mean ∈ gA := gA_of (tb_1 105 rfl) rfl
set_option maxRecDepth 8000 in
theorem g_142 : Cond.instanceMethod yX2_mean ∈ gA := gA_of (tb_1 106 rfl) rfl
set_option maxRecDepth 8000 in
theorem g_143 : Cond.selects RX2 yX2_mean yX2_mean ∈ gA := gA_of (tb_1 107 rfl) rfl
set_option maxRecDepth 8000 in
theorem g_144 : Cond.code yX2_mean cX2_mean 1 (some .double) ∈ gA := gA_of (tb_1 108 rfl) rfl
set_option maxRecDepth 8000 in
theorem g_145 : Cond.methodLink RX2 186 yX1_sumOfLoads ∈ gA := gA_of (tb_1 109 rfl) rfl
set_option maxRecDepth 8000 in
theorem g_146 : Cond.instanceMethod yX1_sumOfLoads ∈ gA := gA_of (tb_1 110 rfl) rfl
set_option maxRecDepth 8000 in
theorem g_147 : Cond.selects RX1 yX1_sumOfLoads yX1_sumOfLoads ∈ gA := gA_of (tb_1 111 rfl) rfl
set_option maxRecDepth 8000 in
theorem g_148 : Cond.code yX1_sumOfLoads cX1_sumOfLoads 3 (some .int) ∈ gA := gA_of (tb_1 112 rfl) rfl
set_option maxRecDepth 8000 in
theorem g_149 : Cond.methodLink RL 135 yX2_digest ∈ gA := gA_of (tb_1 113 rfl) rfl
set_option maxRecDepth 8000 in
theorem g_150 : Cond.instanceMethod yX2_digest ∈ gA := gA_of (tb_1 114 rfl) rfl
set_option maxRecDepth 8000 in
theorem g_151 : Cond.selects RX2 yX2_digest yX2_digest ∈ gA := gA_of (tb_1 115 rfl) rfl
set_option maxRecDepth 8000 in
theorem g_152 : Cond.code yX2_digest cX2_digest 5 (some .long) ∈ gA := gA_of (tb_1 116 rfl) rfl
set_option maxRecDepth 8000 in
theorem g_153 : Cond.constantLong RX2 189 (971 : Int64) ∈ gA := gA_of (tb_1 117 rfl) rfl
set_option maxRecDepth 8000 in
theorem g_154 : Cond.constantLong RX2 191 (31 : Int64) ∈ gA := gA_of (tb_1 118 rfl) rfl
set_option maxRecDepth 8000 in
theorem g_155 : Cond.methodLink RX2 143 yX2_tellSky ∈ gA := gA_of (tb_1 119 rfl) rfl
set_option maxRecDepth 8000 in
theorem t_156 : Cond.privateMethod yX2_tellSky ∈ lw_tbl := tb_1 120 rfl
set_option maxRecDepth 8000 in
theorem g_157 : Cond.instanceMethod yX2_tellSky ∈ gA := gA_of (tb_1 121 rfl) rfl
set_option maxRecDepth 8000 in
theorem g_158 : Cond.code yX2_tellSky cX2_tellSky 2 (some .int) ∈ gA := gA_of (tb_1 122 rfl) rfl
set_option maxRecDepth 8000 in
theorem g_159 : Cond.methodLink RX2 199 yX1_countSpells ∈ gA := gA_of (tb_1 123 rfl) rfl
set_option maxRecDepth 8000 in
theorem g_160 : Cond.instanceMethod yX1_countSpells ∈ gA := gA_of (tb_1 124 rfl) rfl
set_option maxRecDepth 8000 in
theorem g_161 : Cond.selects RX1 yX1_countSpells yX1_countSpells ∈ gA := gA_of (tb_1 125 rfl) rfl
set_option maxRecDepth 8000 in
theorem g_162 : Cond.code yX1_countSpells cX1_countSpells 3 (some .int) ∈ gA := gA_of (tb_1 126 rfl) rfl
set_option maxRecDepth 8000 in
theorem g_163 : Cond.methodLink RX2 162 yX0_countLeft ∈ gA := gA_of (tb_1 127 rfl) rfl
set_option maxRecDepth 8000 in
theorem g_164 : Cond.instanceMethod yX0_countLeft ∈ gA := gA_of (tb_1 128 rfl) rfl
set_option maxRecDepth 8000 in
theorem g_165 : Cond.selects RX0 yX0_countLeft yX0_countLeft ∈ gA := gA_of (tb_1 129 rfl) rfl
set_option maxRecDepth 8000 in
theorem g_166 : Cond.code yX0_countLeft cX0_countLeft 4 (some .int) ∈ gA := gA_of (tb_1 130 rfl) rfl
set_option maxRecDepth 8000 in
theorem g_167 : Cond.methodLink RX0 38 yX0_isGone ∈ gA := gA_of (tb_1 131 rfl) rfl
set_option maxRecDepth 8000 in
theorem g_168 : Cond.instanceMethod yX0_isGone ∈ gA := gA_of (tb_1 132 rfl) rfl
set_option maxRecDepth 8000 in
theorem g_169 : Cond.selects RX0 yX0_isGone yX0_isGone ∈ gA := gA_of (tb_1 133 rfl) rfl
set_option maxRecDepth 8000 in
theorem g_170 : Cond.code yX0_isGone cX0_isGone 3 (some .boolean) ∈ gA := gA_of (tb_1 134 rfl) rfl
set_option maxRecDepth 8000 in
theorem g_171 : Cond.methodLink RX0 25 yX0_has ∈ gA := gA_of (tb_1 135 rfl) rfl
set_option maxRecDepth 8000 in
theorem g_172 : Cond.instanceMethod yX0_has ∈ gA := gA_of (tb_1 136 rfl) rfl
set_option maxRecDepth 8000 in
theorem g_173 : Cond.selects RX0 yX0_has yX0_has ∈ gA := gA_of (tb_1 137 rfl) rfl
set_option maxRecDepth 8000 in
theorem g_174 : Cond.code yX0_has cX0_has 2 (some .boolean) ∈ gA := gA_of (tb_1 138 rfl) rfl
set_option maxRecDepth 8000 in
theorem g_175 : Cond.methodLink RX0 29 yX1_isHanging ∈ gA := gA_of (tb_1 139 rfl) rfl
set_option maxRecDepth 8000 in
theorem g_176 : Cond.instanceMethod yX1_isHanging ∈ gA := gA_of (tb_1 140 rfl) rfl
set_option maxRecDepth 8000 in
theorem g_177 : Cond.selects RX1 yX1_isHanging yX1_isHanging ∈ gA := gA_of (tb_1 141 rfl) rfl
set_option maxRecDepth 8000 in
theorem g_178 : Cond.code yX1_isHanging cX1_isHanging 2 (some .boolean) ∈ gA := gA_of (tb_1 142 rfl) rfl
set_option maxRecDepth 8000 in
theorem g_179 : Cond.methodLink RX1 44 yX1_has ∈ gA := gA_of (tb_1 143 rfl) rfl
set_option maxRecDepth 8000 in
theorem g_180 : Cond.instanceMethod yX1_has ∈ gA := gA_of (tb_1 144 rfl) rfl
set_option maxRecDepth 8000 in
theorem g_181 : Cond.selects RX1 yX1_has yX1_has ∈ gA := gA_of (tb_1 145 rfl) rfl
set_option maxRecDepth 8000 in
theorem g_182 : Cond.code yX1_has cX1_has 2 (some .boolean) ∈ gA := gA_of (tb_1 146 rfl) rfl
set_option maxRecDepth 8000 in
theorem g_183 : Cond.methodLink RX2 166 yX1_sumOfPowers ∈ gA := gA_of (tb_1 147 rfl) rfl
set_option maxRecDepth 8000 in
theorem g_184 : Cond.instanceMethod yX1_sumOfPowers ∈ gA := gA_of (tb_1 148 rfl) rfl
set_option maxRecDepth 8000 in
theorem g_185 : Cond.selects RX1 yX1_sumOfPowers yX1_sumOfPowers ∈ gA := gA_of (tb_1 149 rfl) rfl
set_option maxRecDepth 8000 in
theorem g_186 : Cond.code yX1_sumOfPowers cX1_sumOfPowers 3 (some .int) ∈ gA := gA_of (tb_1 150 rfl) rfl
set_option maxRecDepth 8000 in
theorem g_187 : Cond.methodLink RX2 202 yX1_sumOfProps ∈ gA := gA_of (tb_1 151 rfl) rfl
set_option maxRecDepth 8000 in
theorem g_188 : Cond.instanceMethod yX1_sumOfProps ∈ gA := gA_of (tb_1 152 rfl) rfl
set_option maxRecDepth 8000 in
theorem g_189 : Cond.selects RX1 yX1_sumOfProps yX1_sumOfProps ∈ gA := gA_of (tb_1 153 rfl) rfl
set_option maxRecDepth 8000 in
theorem g_190 : Cond.code yX1_sumOfProps cX1_sumOfProps 3 (some .int) ∈ gA := gA_of (tb_1 154 rfl) rfl
set_option maxRecDepth 8000 in
theorem g_191 : Cond.methodLink RX2 205 yX1_sumOfSpelledLoads ∈ gA := gA_of (tb_1 155 rfl) rfl
set_option maxRecDepth 8000 in
theorem g_192 : Cond.instanceMethod yX1_sumOfSpelledLoads ∈ gA := gA_of (tb_1 156 rfl) rfl
set_option maxRecDepth 8000 in
theorem g_193 : Cond.selects RX1 yX1_sumOfSpelledLoads yX1_sumOfSpelledLoads ∈ gA := gA_of (tb_1 157 rfl) rfl
set_option maxRecDepth 8000 in
theorem g_194 : Cond.code yX1_sumOfSpelledLoads cX1_sumOfSpelledLoads 3 (some .int) ∈ gA := gA_of (tb_1 158 rfl) rfl
set_option maxRecDepth 8000 in
theorem g_195 : Cond.methodLink RX2 135 yX1_tell ∈ gA := gA_of (tb_1 159 rfl) rfl
set_option maxRecDepth 8000 in
theorem g_196 : Cond.instanceMethod yX1_tell ∈ gA := gA_of (tb_1 160 rfl) rfl
set_option maxRecDepth 8000 in
theorem g_197 : Cond.selects RX1 yX1_tell yX1_tell ∈ gA := gA_of (tb_1 161 rfl) rfl
set_option maxRecDepth 8000 in
theorem g_198 : Cond.code yX1_tell cX1_tell 3 (some .int) ∈ gA := gA_of (tb_1 162 rfl) rfl
set_option maxRecDepth 8000 in
theorem g_199 : Cond.methodLink RX1 104 yX1_countHeldBy ∈ gA := gA_of (tb_1 163 rfl) rfl
set_option maxRecDepth 8000 in
theorem t_200 : Cond.privateMethod yX1_countHeldBy ∈ lw_tbl := tb_1 164 rfl
set_option maxRecDepth 8000 in
theorem g_201 : Cond.instanceMethod yX1_countHeldBy ∈ gA := gA_of (tb_1 165 rfl) rfl
set_option maxRecDepth 8000 in
theorem g_202 : Cond.code yX1_countHeldBy cX1_countHeldBy 4 (some .int) ∈ gA := gA_of (tb_1 166 rfl) rfl
set_option maxRecDepth 8000 in
theorem g_203 : Cond.methodLink RX2 126 yX0_tell ∈ gA := gA_of (tb_1 167 rfl) rfl
set_option maxRecDepth 8000 in
theorem g_204 : Cond.instanceMethod yX0_tell ∈ gA := gA_of (tb_1 168 rfl) rfl
set_option maxRecDepth 8000 in
theorem g_205 : Cond.selects RX0 yX0_tell yX0_tell ∈ gA := gA_of (tb_1 169 rfl) rfl
set_option maxRecDepth 8000 in
theorem g_206 : Cond.code yX0_tell cX0_tell 4 (some .int) ∈ gA := gA_of (tb_1 170 rfl) rfl
set_option maxRecDepth 8000 in
theorem g_207 : Cond.methodLink RL 72 yL_conjure ∈ gA := gA_of (tb_1 171 rfl) rfl
set_option maxRecDepth 8000 in
theorem g_208 : Cond.static yL_conjure ∈ gA := gA_of (tb_1 172 rfl) rfl
set_option maxRecDepth 8000 in
theorem g_209 : Cond.codeWith yL_conjure cL_conjure 6 (some .int) [(0, 12, 15, 13), (0, 12, 19, 15)] ∈ gA := gA_of (tb_1 173 rfl) rfl
set_option maxRecDepth 8000 in
theorem g_210 : Cond.classLink RL 13 "java/lang/IllegalArgumentException" ∈ gA := gA_of (tb_1 174 rfl) rfl
set_option maxRecDepth 8000 in
theorem g_211 : Cond.classLink RL 15 "java/lang/IllegalStateException" ∈ gA := gA_of (tb_1 175 rfl) rfl
set_option maxRecDepth 8000 in
theorem g_212 : Cond.methodLink RL 7 yX2_conjure ∈ gA := gA_of (tb_1 176 rfl) rfl
set_option maxRecDepth 8000 in
theorem g_213 : Cond.instanceMethod yX2_conjure ∈ gA := gA_of (tb_1 177 rfl) rfl
set_option maxRecDepth 8000 in
theorem g_214 : Cond.selects RX2 yX2_conjure yX2_conjure ∈ gA := gA_of (tb_1 178 rfl) rfl
set_option maxRecDepth 8000 in
theorem g_215 : Cond.code yX2_conjure cX2_conjure 5 (some .int) ∈ gA := gA_of (tb_1 179 rfl) rfl
set_option maxRecDepth 8000 in
theorem g_216 : Cond.methodLink RX2 26 yX2_isBody ∈ gA := gA_of (tb_1 180 rfl) rfl
set_option maxRecDepth 8000 in
theorem g_217 : Cond.static yX2_isBody ∈ gA := gA_of (tb_1 181 rfl) rfl
set_option maxRecDepth 8000 in
theorem g_218 : Cond.code yX2_isBody cX2_isBody 2 (some .boolean) ∈ gA := gA_of (tb_1 182 rfl) rfl
set_option maxRecDepth 8000 in
theorem g_219 : Cond.methodLink RX2 30 yX2_isWithin ∈ gA := gA_of (tb_1 183 rfl) rfl
set_option maxRecDepth 8000 in
theorem g_220 : Cond.static yX2_isWithin ∈ gA := gA_of (tb_1 184 rfl) rfl
set_option maxRecDepth 8000 in
theorem g_221 : Cond.code yX2_isWithin cX2_isWithin 3 (some .boolean) ∈ gA := gA_of (tb_1 185 rfl) rfl
set_option maxRecDepth 8000 in
theorem g_222 : Cond.classLink RX2 34 "java/lang/IllegalArgumentException" ∈ gA := gA_of (tb_1 186 rfl) rfl
set_option maxRecDepth 8000 in
theorem g_223 : Cond.instantiable "java/lang/IllegalArgumentException" 6 ∈ gA := gA_of (tb_1 187 rfl) rfl
set_option maxRecDepth 8000 in
theorem t_224 : Cond.castable "java/lang/IllegalArgumentException" "java/lang/IllegalArgumentException" ∈ lw_tbl := tb_1 188 rfl
set_option maxRecDepth 8000 in
theorem t_225 : Cond.declares ⟨"java/lang/RuntimeException", "<init>", "()V"⟩ ∈ lw_tbl := tb_1 189 rfl
set_option maxRecDepth 8000 in
theorem t_226 : Cond.declares ⟨"java/lang/RuntimeException", "<init>", "(Ljava/lang/String;)V"⟩ ∈ lw_tbl := tb_1 190 rfl
set_option maxRecDepth 8000 in
theorem t_227 : Cond.declares ⟨"java/lang/Exception", "<init>", "()V"⟩ ∈ lw_tbl := tb_1 191 rfl
set_option maxRecDepth 8000 in
theorem t_228 : Cond.declares ⟨"java/lang/Exception", "<init>", "(Ljava/lang/String;)V"⟩ ∈ lw_tbl := tb_1 192 rfl
set_option maxRecDepth 8000 in
theorem t_229 : Cond.declares ⟨"java/lang/Throwable", "<init>", "()V"⟩ ∈ lw_tbl := tb_1 193 rfl
set_option maxRecDepth 8000 in
theorem t_230 : Cond.declares ⟨"java/lang/Throwable", "<init>", "(Ljava/lang/String;)V"⟩ ∈ lw_tbl := tb_1 194 rfl
set_option maxRecDepth 8000 in
theorem g_231 : Cond.selects "java/lang/IllegalArgumentException" ⟨"java/lang/Throwable", "fillInStackTrace", "(I)Ljava/lang/Throwable;"⟩ ⟨"java/lang/Throwable", "fillInStackTrace", "(I)Ljava/lang/Throwable;"⟩ ∈ gA := gA_of (tb_1 195 rfl) rfl
set_option maxRecDepth 8000 in
theorem g_232 : Cond.selects "java/lang/IllegalArgumentException" ⟨"java/lang/Throwable", "fillInStackTrace", "()Ljava/lang/Throwable;"⟩ ⟨"java/lang/Throwable", "fillInStackTrace", "()Ljava/lang/Throwable;"⟩ ∈ gA := gA_of (tb_1 196 rfl) rfl
set_option maxRecDepth 8000 in
theorem g_233 : Cond.lays "java/lang/IllegalArgumentException" "java/lang/Throwable" "cause" "Ljava/lang/Throwable;" ∈ gA := gA_of (tb_1 197 rfl) rfl
set_option maxRecDepth 8000 in
theorem g_234 : Cond.lays "java/lang/Throwable" "java/lang/Throwable" "cause" "Ljava/lang/Throwable;" ∈ gA := gA_of (tb_1 198 rfl) rfl
set_option maxRecDepth 8000 in
theorem g_235 : Cond.lays "java/lang/IllegalArgumentException" "java/lang/Throwable" "stackTrace" "[Ljava/lang/StackTraceElement;" ∈ gA := gA_of (tb_1 199 rfl) rfl
set_option maxRecDepth 8000 in
theorem g_236 : Cond.lays "java/lang/Throwable" "java/lang/Throwable" "stackTrace" "[Ljava/lang/StackTraceElement;" ∈ gA := gA_of (tb_1 200 rfl) rfl
set_option maxRecDepth 8000 in
theorem g_237 : Cond.lays "java/lang/IllegalArgumentException" "java/lang/Throwable" "suppressedExceptions" "Ljava/util/List;" ∈ gA := gA_of (tb_1 201 rfl) rfl
set_option maxRecDepth 8000 in
theorem g_238 : Cond.lays "java/lang/Throwable" "java/lang/Throwable" "suppressedExceptions" "Ljava/util/List;" ∈ gA := gA_of (tb_1 202 rfl) rfl
set_option maxRecDepth 8000 in
theorem g_239 : Cond.lays "java/lang/IllegalArgumentException" "java/lang/Throwable" "detailMessage" "Ljava/lang/String;" ∈ gA := gA_of (tb_1 203 rfl) rfl
set_option maxRecDepth 8000 in
theorem g_240 : Cond.lays "java/lang/Throwable" "java/lang/Throwable" "detailMessage" "Ljava/lang/String;" ∈ gA := gA_of (tb_1 204 rfl) rfl
set_option maxRecDepth 8000 in
theorem g_241 : Cond.lays "java/lang/IllegalArgumentException" "java/lang/Throwable" "backtrace" "Ljava/lang/Object;" ∈ gA := gA_of (tb_1 205 rfl) rfl
set_option maxRecDepth 8000 in
theorem g_242 : Cond.lays "java/lang/Throwable" "java/lang/Throwable" "backtrace" "Ljava/lang/Object;" ∈ gA := gA_of (tb_1 206 rfl) rfl
set_option maxRecDepth 8000 in
theorem g_243 : Cond.fieldLink "java/lang/Throwable" 198 "java/lang/Throwable" "backtrace" "Ljava/lang/Object;" ∈ gA := gA_of (tb_1 207 rfl) rfl
set_option maxRecDepth 8000 in
theorem g_244 : Cond.superclass "java/lang/Throwable" "java/lang/Object" ∈ gA := gA_of (tb_1 208 rfl) rfl
set_option maxRecDepth 8000 in
theorem g_245 : Cond.instanceMethod ⟨"java/lang/Throwable", "<init>", "()V"⟩ ∈ gA := gA_of (tb_1 209 rfl) rfl
set_option maxRecDepth 8000 in
theorem g_246 : Cond.code ⟨"java/lang/Throwable", "<init>", "()V"⟩ prog_15_method_1_code 1 none ∈ gA := gA_of (tb_1 210 rfl) rfl
set_option maxRecDepth 8000 in
theorem g_247 : Cond.methodLink "java/lang/Throwable" 1 ⟨"java/lang/Object", "<init>", "()V"⟩ ∈ gA := gA_of (tb_1 211 rfl) rfl
set_option maxRecDepth 8000 in
theorem g_248 : Cond.fieldLink "java/lang/Throwable" 13 "java/lang/Throwable" "UNASSIGNED_STACK" "[Ljava/lang/StackTraceElement;" ∈ gA := gA_of (tb_1 212 rfl) rfl
set_option maxRecDepth 8000 in
theorem t_249 : Cond.laysStatic "java/lang/Throwable" "UNASSIGNED_STACK" "[Ljava/lang/StackTraceElement;" ∈ lw_tbl := tb_1 213 rfl
set_option maxRecDepth 8000 in
theorem g_250 : Cond.fieldLink "java/lang/Throwable" 20 "java/lang/Throwable" "SUPPRESSED_SENTINEL" "Ljava/util/List;" ∈ gA := gA_of (tb_1 214 rfl) rfl
set_option maxRecDepth 8000 in
theorem t_251 : Cond.laysStatic "java/lang/Throwable" "SUPPRESSED_SENTINEL" "Ljava/util/List;" ∈ lw_tbl := tb_1 215 rfl
set_option maxRecDepth 8000 in
theorem g_252 : Cond.methodLink "java/lang/Throwable" 27 ⟨"java/lang/Throwable", "fillInStackTrace", "()Ljava/lang/Throwable;"⟩ ∈ gA := gA_of (tb_1 216 rfl) rfl
set_option maxRecDepth 8000 in
theorem g_253 : Cond.instanceMethod ⟨"java/lang/Throwable", "fillInStackTrace", "()Ljava/lang/Throwable;"⟩ ∈ gA := gA_of (tb_1 217 rfl) rfl
set_option maxRecDepth 8000 in
theorem g_254 : Cond.sameMethod "java/lang/Throwable" "java/lang/Throwable" "fillInStackTrace" "()Ljava/lang/Throwable;" ∈ gA := gA_of (tb_1 218 rfl) rfl
set_option maxRecDepth 8000 in
theorem g_255 : Cond.selects "java/lang/IllegalStateException" ⟨"java/lang/Throwable", "fillInStackTrace", "()Ljava/lang/Throwable;"⟩ ⟨"java/lang/Throwable", "fillInStackTrace", "()Ljava/lang/Throwable;"⟩ ∈ gA := gA_of (tb_1 219 rfl) rfl
set_option maxRecDepth 8000 in
theorem g_256 : Cond.selects "java/lang/IndexOutOfBoundsException" ⟨"java/lang/Throwable", "fillInStackTrace", "()Ljava/lang/Throwable;"⟩ ⟨"java/lang/Throwable", "fillInStackTrace", "()Ljava/lang/Throwable;"⟩ ∈ gA := gA_of (tb_1 220 rfl) rfl
set_option maxRecDepth 8000 in
theorem g_257 : Cond.codeSync ⟨"java/lang/Throwable", "fillInStackTrace", "()Ljava/lang/Throwable;"⟩ prog_15_method_18_code 1 (Option.some (.object "java/lang/Throwable")) ∈ gA := gA_of (tb_1 221 rfl) rfl
set_option maxRecDepth 8000 in
theorem g_258 : Cond.methodLink "java/lang/Throwable" 202 ⟨"java/lang/Throwable", "fillInStackTrace", "(I)Ljava/lang/Throwable;"⟩ ∈ gA := gA_of (tb_1 222 rfl) rfl
set_option maxRecDepth 8000 in
theorem t_259 : Cond.privateMethod ⟨"java/lang/Throwable", "fillInStackTrace", "(I)Ljava/lang/Throwable;"⟩ ∈ lw_tbl := tb_1 223 rfl
set_option maxRecDepth 8000 in
theorem g_260 : Cond.instanceMethod ⟨"java/lang/Throwable", "fillInStackTrace", "(I)Ljava/lang/Throwable;"⟩ ∈ gA := gA_of (tb_1 224 rfl) rfl
set_option maxRecDepth 8000 in
theorem g_261 : Cond.instantiable "java/lang/Throwable" 6 ∈ gA := gA_of (tb_1 225 rfl) rfl
set_option maxRecDepth 8000 in
theorem g_262 : Cond.native ⟨"java/lang/Throwable", "fillInStackTrace", "(I)Ljava/lang/Throwable;"⟩ ∈ gA := gA_of (tb_1 226 rfl) rfl
set_option maxRecDepth 8000 in
theorem t_263 : Cond.stringRef RX2 36 "no such weight, strength or power" ∈ lw_tbl := tb_1 227 rfl
set_option maxRecDepth 8000 in
theorem g_264 : Cond.methodLink RX2 38 ⟨"java/lang/IllegalArgumentException", "<init>", "(Ljava/lang/String;)V"⟩ ∈ gA := gA_of (tb_1 228 rfl) rfl
set_option maxRecDepth 8000 in
theorem g_265 : Cond.instanceMethod ⟨"java/lang/IllegalArgumentException", "<init>", "(Ljava/lang/String;)V"⟩ ∈ gA := gA_of (tb_1 229 rfl) rfl
set_option maxRecDepth 8000 in
theorem g_266 : Cond.code ⟨"java/lang/IllegalArgumentException", "<init>", "(Ljava/lang/String;)V"⟩ prog_8_method_2_code 2 none ∈ gA := gA_of (tb_1 230 rfl) rfl
set_option maxRecDepth 8000 in
theorem g_267 : Cond.methodLink "java/lang/IllegalArgumentException" 7 ⟨"java/lang/RuntimeException", "<init>", "(Ljava/lang/String;)V"⟩ ∈ gA := gA_of (tb_1 231 rfl) rfl
set_option maxRecDepth 8000 in
theorem g_268 : Cond.instanceMethod ⟨"java/lang/RuntimeException", "<init>", "(Ljava/lang/String;)V"⟩ ∈ gA := gA_of (tb_1 232 rfl) rfl
set_option maxRecDepth 8000 in
theorem g_269 : Cond.code ⟨"java/lang/RuntimeException", "<init>", "(Ljava/lang/String;)V"⟩ prog_12_method_2_code 2 none ∈ gA := gA_of (tb_1 233 rfl) rfl
set_option maxRecDepth 8000 in
theorem g_270 : Cond.methodLink "java/lang/RuntimeException" 7 ⟨"java/lang/Exception", "<init>", "(Ljava/lang/String;)V"⟩ ∈ gA := gA_of (tb_1 234 rfl) rfl
set_option maxRecDepth 8000 in
theorem g_271 : Cond.instanceMethod ⟨"java/lang/Exception", "<init>", "(Ljava/lang/String;)V"⟩ ∈ gA := gA_of (tb_1 235 rfl) rfl
set_option maxRecDepth 8000 in
theorem g_272 : Cond.code ⟨"java/lang/Exception", "<init>", "(Ljava/lang/String;)V"⟩ prog_7_method_2_code 2 none ∈ gA := gA_of (tb_1 236 rfl) rfl
set_option maxRecDepth 8000 in
theorem g_273 : Cond.methodLink "java/lang/Exception" 7 ⟨"java/lang/Throwable", "<init>", "(Ljava/lang/String;)V"⟩ ∈ gA := gA_of (tb_1 237 rfl) rfl
set_option maxRecDepth 8000 in
theorem g_274 : Cond.instanceMethod ⟨"java/lang/Throwable", "<init>", "(Ljava/lang/String;)V"⟩ ∈ gA := gA_of (tb_1 238 rfl) rfl
set_option maxRecDepth 8000 in
theorem g_275 : Cond.code ⟨"java/lang/Throwable", "<init>", "(Ljava/lang/String;)V"⟩ prog_15_method_2_code 2 none ∈ gA := gA_of (tb_1 239 rfl) rfl
set_option maxRecDepth 8000 in
theorem g_277 : Cond.fieldLink "java/lang/Throwable" 31 "java/lang/Throwable" "detailMessage" "Ljava/lang/String;" ∈ gA := gA_of (tb_2 1 rfl) rfl
set_option maxRecDepth 8000 in
theorem g_278 : Cond.fieldLink "java/lang/Throwable" 7 "java/lang/Throwable" "cause" "Ljava/lang/Throwable;" ∈ gA := gA_of (tb_2 2 rfl) rfl
set_option maxRecDepth 8000 in
theorem g_279 : Cond.fieldLink "java/lang/Throwable" 17 "java/lang/Throwable" "stackTrace" "[Ljava/lang/StackTraceElement;" ∈ gA := gA_of (tb_2 3 rfl) rfl
set_option maxRecDepth 8000 in
theorem g_280 : Cond.fieldLink "java/lang/Throwable" 24 "java/lang/Throwable" "suppressedExceptions" "Ljava/util/List;" ∈ gA := gA_of (tb_2 4 rfl) rfl
set_option maxRecDepth 8000 in
theorem g_281 : Cond.soleField "java/lang/Throwable" "backtrace" ∈ gA := gA_of (tb_2 5 rfl) rfl
set_option maxRecDepth 8000 in
theorem g_282 : Cond.soleField "java/lang/Throwable" "detailMessage" ∈ gA := gA_of (tb_2 6 rfl) rfl
set_option maxRecDepth 8000 in
theorem g_283 : Cond.soleField "java/lang/Throwable" "cause" ∈ gA := gA_of (tb_2 7 rfl) rfl
set_option maxRecDepth 8000 in
theorem g_284 : Cond.soleField "java/lang/Throwable" "stackTrace" ∈ gA := gA_of (tb_2 8 rfl) rfl
set_option maxRecDepth 8000 in
theorem g_285 : Cond.lays "java/lang/IllegalArgumentException" "java/lang/Throwable" "depth" "I" ∈ gA := gA_of (tb_2 9 rfl) rfl
set_option maxRecDepth 8000 in
theorem g_286 : Cond.soleField "java/lang/Throwable" "depth" ∈ gA := gA_of (tb_2 10 rfl) rfl
set_option maxRecDepth 8000 in
theorem g_287 : Cond.soleField "java/lang/Throwable" "suppressedExceptions" ∈ gA := gA_of (tb_2 11 rfl) rfl
set_option maxRecDepth 8000 in
theorem g_288 : Cond.superclass "java/lang/IllegalArgumentException" "java/lang/RuntimeException" ∈ gA := gA_of (tb_2 12 rfl) rfl
set_option maxRecDepth 8000 in
theorem g_289 : Cond.arrayClass .byte ∈ gA := gA_of (tb_2 13 rfl) rfl
set_option maxRecDepth 8000 in
theorem g_290 : Cond.methodLink RX2 41 yX1_isFull ∈ gA := gA_of (tb_2 14 rfl) rfl
set_option maxRecDepth 8000 in
theorem g_291 : Cond.instanceMethod yX1_isFull ∈ gA := gA_of (tb_2 15 rfl) rfl
set_option maxRecDepth 8000 in
theorem g_292 : Cond.selects RX1 yX1_isFull yX1_isFull ∈ gA := gA_of (tb_2 16 rfl) rfl
set_option maxRecDepth 8000 in
theorem g_293 : Cond.code yX1_isFull cX1_isFull 1 (some .boolean) ∈ gA := gA_of (tb_2 17 rfl) rfl
set_option maxRecDepth 8000 in
theorem g_294 : Cond.classLink RX2 45 "java/lang/IllegalStateException" ∈ gA := gA_of (tb_2 18 rfl) rfl
set_option maxRecDepth 8000 in
theorem g_295 : Cond.instantiable "java/lang/IllegalStateException" 6 ∈ gA := gA_of (tb_2 19 rfl) rfl
set_option maxRecDepth 8000 in
theorem t_296 : Cond.castable "java/lang/IllegalStateException" "java/lang/IllegalStateException" ∈ lw_tbl := tb_2 20 rfl
set_option maxRecDepth 8000 in
theorem g_297 : Cond.selects "java/lang/IllegalStateException" ⟨"java/lang/Throwable", "fillInStackTrace", "(I)Ljava/lang/Throwable;"⟩ ⟨"java/lang/Throwable", "fillInStackTrace", "(I)Ljava/lang/Throwable;"⟩ ∈ gA := gA_of (tb_2 21 rfl) rfl
set_option maxRecDepth 8000 in
theorem g_298 : Cond.lays "java/lang/IllegalStateException" "java/lang/Throwable" "cause" "Ljava/lang/Throwable;" ∈ gA := gA_of (tb_2 22 rfl) rfl
set_option maxRecDepth 8000 in
theorem g_299 : Cond.lays "java/lang/IllegalStateException" "java/lang/Throwable" "stackTrace" "[Ljava/lang/StackTraceElement;" ∈ gA := gA_of (tb_2 23 rfl) rfl
set_option maxRecDepth 8000 in
theorem g_300 : Cond.lays "java/lang/IllegalStateException" "java/lang/Throwable" "suppressedExceptions" "Ljava/util/List;" ∈ gA := gA_of (tb_2 24 rfl) rfl
set_option maxRecDepth 8000 in
theorem g_301 : Cond.lays "java/lang/IllegalStateException" "java/lang/Throwable" "detailMessage" "Ljava/lang/String;" ∈ gA := gA_of (tb_2 25 rfl) rfl
set_option maxRecDepth 8000 in
theorem g_302 : Cond.lays "java/lang/IllegalStateException" "java/lang/Throwable" "backtrace" "Ljava/lang/Object;" ∈ gA := gA_of (tb_2 26 rfl) rfl
set_option maxRecDepth 8000 in
theorem t_303 : Cond.stringRef RX2 47 "no more stones" ∈ lw_tbl := tb_2 27 rfl
set_option maxRecDepth 8000 in
theorem g_304 : Cond.methodLink RX2 49 ⟨"java/lang/IllegalStateException", "<init>", "(Ljava/lang/String;)V"⟩ ∈ gA := gA_of (tb_2 28 rfl) rfl
set_option maxRecDepth 8000 in
theorem g_305 : Cond.instanceMethod ⟨"java/lang/IllegalStateException", "<init>", "(Ljava/lang/String;)V"⟩ ∈ gA := gA_of (tb_2 29 rfl) rfl
set_option maxRecDepth 8000 in
theorem g_306 : Cond.code ⟨"java/lang/IllegalStateException", "<init>", "(Ljava/lang/String;)V"⟩ prog_9_method_2_code 2 none ∈ gA := gA_of (tb_2 30 rfl) rfl
set_option maxRecDepth 8000 in
theorem g_307 : Cond.methodLink "java/lang/IllegalStateException" 7 ⟨"java/lang/RuntimeException", "<init>", "(Ljava/lang/String;)V"⟩ ∈ gA := gA_of (tb_2 31 rfl) rfl
set_option maxRecDepth 8000 in
theorem g_308 : Cond.lays "java/lang/IllegalStateException" "java/lang/Throwable" "depth" "I" ∈ gA := gA_of (tb_2 32 rfl) rfl
set_option maxRecDepth 8000 in
theorem g_309 : Cond.superclass "java/lang/IllegalStateException" "java/lang/RuntimeException" ∈ gA := gA_of (tb_2 33 rfl) rfl
set_option maxRecDepth 8000 in
theorem g_310 : Cond.methodLink RX2 50 yX1_addBySpell ∈ gA := gA_of (tb_2 34 rfl) rfl
set_option maxRecDepth 8000 in
theorem g_311 : Cond.instanceMethod yX1_addBySpell ∈ gA := gA_of (tb_2 35 rfl) rfl
set_option maxRecDepth 8000 in
theorem g_312 : Cond.selects RX1 yX1_addBySpell yX1_addBySpell ∈ gA := gA_of (tb_2 36 rfl) rfl
set_option maxRecDepth 8000 in
theorem g_313 : Cond.code yX1_addBySpell cX1_addBySpell 5 (some .int) ∈ gA := gA_of (tb_2 37 rfl) rfl
set_option maxRecDepth 8000 in
theorem g_314 : Cond.methodLink RX1 48 yX1_addByHolds ∈ gA := gA_of (tb_2 38 rfl) rfl
set_option maxRecDepth 8000 in
theorem g_315 : Cond.instanceMethod yX1_addByHolds ∈ gA := gA_of (tb_2 39 rfl) rfl
set_option maxRecDepth 8000 in
theorem g_316 : Cond.selects RX1 yX1_addByHolds yX1_addByHolds ∈ gA := gA_of (tb_2 40 rfl) rfl
set_option maxRecDepth 8000 in
theorem g_317 : Cond.code yX1_addByHolds cX1_addByHolds 6 (some .int) ∈ gA := gA_of (tb_2 41 rfl) rfl
set_option maxRecDepth 8000 in
theorem g_318 : Cond.methodLink RX1 52 yX1_isFull ∈ gA := gA_of (tb_2 42 rfl) rfl
set_option maxRecDepth 8000 in
theorem g_319 : Cond.methodLink RX2 54 yX1_giveWay ∈ gA := gA_of (tb_2 43 rfl) rfl
set_option maxRecDepth 8000 in
theorem g_320 : Cond.instanceMethod yX1_giveWay ∈ gA := gA_of (tb_2 44 rfl) rfl
set_option maxRecDepth 8000 in
theorem g_321 : Cond.selects RX1 yX1_giveWay yX1_giveWay ∈ gA := gA_of (tb_2 45 rfl) rfl
set_option maxRecDepth 8000 in
theorem g_322 : Cond.code yX1_giveWay cX1_giveWay 3 none ∈ gA := gA_of (tb_2 46 rfl) rfl
set_option maxRecDepth 8000 in
theorem g_323 : Cond.methodLink RX1 66 yX1_measure ∈ gA := gA_of (tb_2 47 rfl) rfl
set_option maxRecDepth 8000 in
theorem t_324 : Cond.privateMethod yX1_measure ∈ lw_tbl := tb_2 48 rfl
set_option maxRecDepth 8000 in
theorem g_325 : Cond.instanceMethod yX1_measure ∈ gA := gA_of (tb_2 49 rfl) rfl
set_option maxRecDepth 8000 in
theorem g_326 : Cond.code yX1_measure cX1_measure 2 none ∈ gA := gA_of (tb_2 50 rfl) rfl
set_option maxRecDepth 8000 in
theorem g_327 : Cond.methodLink RX1 78 ⟨"java/lang/Math", "max", "(II)I"⟩ ∈ gA := gA_of (tb_2 51 rfl) rfl
set_option maxRecDepth 8000 in
theorem g_328 : Cond.static ⟨"java/lang/Math", "max", "(II)I"⟩ ∈ gA := gA_of (tb_2 52 rfl) rfl
set_option maxRecDepth 8000 in
theorem g_329 : Cond.code ⟨"java/lang/Math", "max", "(II)I"⟩ prog_11_method_65_code 2 (some .int) ∈ gA := gA_of (tb_2 53 rfl) rfl
set_option maxRecDepth 8000 in
theorem g_330 : Cond.methodLink RX1 84 yX1_bear ∈ gA := gA_of (tb_2 54 rfl) rfl
set_option maxRecDepth 8000 in
theorem t_331 : Cond.privateMethod yX1_bear ∈ lw_tbl := tb_2 55 rfl
set_option maxRecDepth 8000 in
theorem g_332 : Cond.instanceMethod yX1_bear ∈ gA := gA_of (tb_2 56 rfl) rfl
set_option maxRecDepth 8000 in
theorem g_333 : Cond.code yX1_bear cX1_bear 3 none ∈ gA := gA_of (tb_2 57 rfl) rfl
set_option maxRecDepth 8000 in
theorem g_334 : Cond.methodLink RX1 69 yX1_tearOverpulled ∈ gA := gA_of (tb_2 58 rfl) rfl
set_option maxRecDepth 8000 in
theorem t_335 : Cond.privateMethod yX1_tearOverpulled ∈ lw_tbl := tb_2 59 rfl
set_option maxRecDepth 8000 in
theorem g_336 : Cond.instanceMethod yX1_tearOverpulled ∈ gA := gA_of (tb_2 60 rfl) rfl
set_option maxRecDepth 8000 in
theorem g_337 : Cond.code yX1_tearOverpulled cX1_tearOverpulled 2 none ∈ gA := gA_of (tb_2 61 rfl) rfl
set_option maxRecDepth 8000 in
theorem g_338 : Cond.methodLink RX1 88 yX1_tearHoldsFrom ∈ gA := gA_of (tb_2 62 rfl) rfl
set_option maxRecDepth 8000 in
theorem t_339 : Cond.privateMethod yX1_tearHoldsFrom ∈ lw_tbl := tb_2 63 rfl
set_option maxRecDepth 8000 in
theorem g_340 : Cond.instanceMethod yX1_tearHoldsFrom ∈ gA := gA_of (tb_2 64 rfl) rfl
set_option maxRecDepth 8000 in
theorem g_341 : Cond.code yX1_tearHoldsFrom cX1_tearHoldsFrom 3 none ∈ gA := gA_of (tb_2 65 rfl) rfl
set_option maxRecDepth 8000 in
theorem g_342 : Cond.methodLink RX1 72 yX1_endOverloaded ∈ gA := gA_of (tb_2 66 rfl) rfl
set_option maxRecDepth 8000 in
theorem t_343 : Cond.privateMethod yX1_endOverloaded ∈ lw_tbl := tb_2 67 rfl
set_option maxRecDepth 8000 in
theorem g_344 : Cond.instanceMethod yX1_endOverloaded ∈ gA := gA_of (tb_2 68 rfl) rfl
set_option maxRecDepth 8000 in
theorem g_345 : Cond.code yX1_endOverloaded cX1_endOverloaded 2 none ∈ gA := gA_of (tb_2 69 rfl) rfl
set_option maxRecDepth 8000 in
theorem g_346 : Cond.methodLink RX1 92 yX1_endSpell ∈ gA := gA_of (tb_2 70 rfl) rfl
set_option maxRecDepth 8000 in
theorem t_347 : Cond.privateMethod yX1_endSpell ∈ lw_tbl := tb_2 71 rfl
set_option maxRecDepth 8000 in
theorem g_348 : Cond.instanceMethod yX1_endSpell ∈ gA := gA_of (tb_2 72 rfl) rfl
set_option maxRecDepth 8000 in
theorem g_349 : Cond.code yX1_endSpell cX1_endSpell 2 none ∈ gA := gA_of (tb_2 73 rfl) rfl
set_option maxRecDepth 8000 in
theorem g_350 : Cond.methodLink RX1 75 yX1_dropLoose ∈ gA := gA_of (tb_2 74 rfl) rfl
set_option maxRecDepth 8000 in
theorem t_351 : Cond.privateMethod yX1_dropLoose ∈ lw_tbl := tb_2 75 rfl
set_option maxRecDepth 8000 in
theorem g_352 : Cond.instanceMethod yX1_dropLoose ∈ gA := gA_of (tb_2 76 rfl) rfl
set_option maxRecDepth 8000 in
theorem g_353 : Cond.code yX1_dropLoose cX1_dropLoose 2 none ∈ gA := gA_of (tb_2 77 rfl) rfl
set_option maxRecDepth 8000 in
theorem g_354 : Cond.methodLink RL 82 yL_hang ∈ gA := gA_of (tb_2 78 rfl) rfl
set_option maxRecDepth 8000 in
theorem g_355 : Cond.static yL_hang ∈ gA := gA_of (tb_2 79 rfl) rfl
set_option maxRecDepth 8000 in
theorem g_356 : Cond.codeWith yL_hang cL_hang 7 (some .int) [(0, 14, 17, 13), (0, 14, 21, 21), (0, 14, 25, 15)] ∈ gA := gA_of (tb_2 80 rfl) rfl
set_option maxRecDepth 8000 in
theorem g_357 : Cond.classLink RL 21 "java/lang/IndexOutOfBoundsException" ∈ gA := gA_of (tb_2 81 rfl) rfl
set_option maxRecDepth 8000 in
theorem g_358 : Cond.methodLink RL 17 yX2_hang ∈ gA := gA_of (tb_2 82 rfl) rfl
set_option maxRecDepth 8000 in
theorem g_359 : Cond.instanceMethod yX2_hang ∈ gA := gA_of (tb_2 83 rfl) rfl
set_option maxRecDepth 8000 in
theorem g_360 : Cond.selects RX2 yX2_hang yX2_hang ∈ gA := gA_of (tb_2 84 rfl) rfl
set_option maxRecDepth 8000 in
theorem g_361 : Cond.code yX2_hang cX2_hang 6 (some .int) ∈ gA := gA_of (tb_2 85 rfl) rfl
set_option maxRecDepth 8000 in
theorem t_362 : Cond.stringRef RX2 57 "no such weight or strength, or both stones are the same" ∈ lw_tbl := tb_2 86 rfl
set_option maxRecDepth 8000 in
theorem g_363 : Cond.methodLink RX2 59 yX1_has ∈ gA := gA_of (tb_2 87 rfl) rfl
set_option maxRecDepth 8000 in
theorem g_364 : Cond.classLink RX2 63 "java/lang/IndexOutOfBoundsException" ∈ gA := gA_of (tb_2 88 rfl) rfl
set_option maxRecDepth 8000 in
theorem g_365 : Cond.instantiable "java/lang/IndexOutOfBoundsException" 6 ∈ gA := gA_of (tb_2 89 rfl) rfl
set_option maxRecDepth 8000 in
theorem t_366 : Cond.castable "java/lang/IndexOutOfBoundsException" "java/lang/IndexOutOfBoundsException" ∈ lw_tbl := tb_2 90 rfl
set_option maxRecDepth 8000 in
theorem g_367 : Cond.selects "java/lang/IndexOutOfBoundsException" ⟨"java/lang/Throwable", "fillInStackTrace", "(I)Ljava/lang/Throwable;"⟩ ⟨"java/lang/Throwable", "fillInStackTrace", "(I)Ljava/lang/Throwable;"⟩ ∈ gA := gA_of (tb_2 91 rfl) rfl
set_option maxRecDepth 8000 in
theorem g_368 : Cond.lays "java/lang/IndexOutOfBoundsException" "java/lang/Throwable" "cause" "Ljava/lang/Throwable;" ∈ gA := gA_of (tb_2 92 rfl) rfl
set_option maxRecDepth 8000 in
theorem g_369 : Cond.lays "java/lang/IndexOutOfBoundsException" "java/lang/Throwable" "stackTrace" "[Ljava/lang/StackTraceElement;" ∈ gA := gA_of (tb_2 93 rfl) rfl
set_option maxRecDepth 8000 in
theorem g_370 : Cond.lays "java/lang/IndexOutOfBoundsException" "java/lang/Throwable" "suppressedExceptions" "Ljava/util/List;" ∈ gA := gA_of (tb_2 94 rfl) rfl
set_option maxRecDepth 8000 in
theorem g_371 : Cond.lays "java/lang/IndexOutOfBoundsException" "java/lang/Throwable" "detailMessage" "Ljava/lang/String;" ∈ gA := gA_of (tb_2 95 rfl) rfl
set_option maxRecDepth 8000 in
theorem g_372 : Cond.lays "java/lang/IndexOutOfBoundsException" "java/lang/Throwable" "backtrace" "Ljava/lang/Object;" ∈ gA := gA_of (tb_2 96 rfl) rfl
set_option maxRecDepth 8000 in
theorem t_373 : Cond.stringRef RX2 65 "no such stone" ∈ lw_tbl := tb_2 97 rfl
set_option maxRecDepth 8000 in
theorem g_374 : Cond.methodLink RX2 67 ⟨"java/lang/IndexOutOfBoundsException", "<init>", "(Ljava/lang/String;)V"⟩ ∈ gA := gA_of (tb_2 98 rfl) rfl
set_option maxRecDepth 8000 in
theorem g_375 : Cond.instanceMethod ⟨"java/lang/IndexOutOfBoundsException", "<init>", "(Ljava/lang/String;)V"⟩ ∈ gA := gA_of (tb_2 99 rfl) rfl
set_option maxRecDepth 8000 in
theorem g_376 : Cond.code ⟨"java/lang/IndexOutOfBoundsException", "<init>", "(Ljava/lang/String;)V"⟩ prog_10_method_2_code 2 none ∈ gA := gA_of (tb_2 100 rfl) rfl
set_option maxRecDepth 8000 in
theorem g_377 : Cond.methodLink "java/lang/IndexOutOfBoundsException" 7 ⟨"java/lang/RuntimeException", "<init>", "(Ljava/lang/String;)V"⟩ ∈ gA := gA_of (tb_2 101 rfl) rfl
set_option maxRecDepth 8000 in
theorem g_378 : Cond.lays "java/lang/IndexOutOfBoundsException" "java/lang/Throwable" "depth" "I" ∈ gA := gA_of (tb_2 102 rfl) rfl
set_option maxRecDepth 8000 in
theorem g_379 : Cond.superclass "java/lang/IndexOutOfBoundsException" "java/lang/RuntimeException" ∈ gA := gA_of (tb_2 103 rfl) rfl
set_option maxRecDepth 8000 in
theorem g_380 : Cond.methodLink RX2 68 yX1_isHanging ∈ gA := gA_of (tb_2 104 rfl) rfl
set_option maxRecDepth 8000 in
theorem t_381 : Cond.stringRef RX2 71 "no more stones, or one of them has fallen" ∈ lw_tbl := tb_2 105 rfl
set_option maxRecDepth 8000 in
theorem g_382 : Cond.methodLink RX2 73 yX1_addByHolds ∈ gA := gA_of (tb_2 106 rfl) rfl
set_option maxRecDepth 8000 in
theorem g_383 : Cond.methodLink RL 86 yL_prop ∈ gA := gA_of (tb_2 107 rfl) rfl
set_option maxRecDepth 8000 in
theorem g_384 : Cond.static yL_prop ∈ gA := gA_of (tb_2 108 rfl) rfl
set_option maxRecDepth 8000 in
theorem g_385 : Cond.codeWith yL_prop cL_prop 5 (some .int) [(0, 10, 13, 21), (0, 10, 17, 13), (0, 10, 21, 15)] ∈ gA := gA_of (tb_2 109 rfl) rfl
set_option maxRecDepth 8000 in
theorem g_386 : Cond.methodLink RL 23 yX2_prop ∈ gA := gA_of (tb_2 110 rfl) rfl
set_option maxRecDepth 8000 in
theorem g_387 : Cond.instanceMethod yX2_prop ∈ gA := gA_of (tb_2 111 rfl) rfl
set_option maxRecDepth 8000 in
theorem g_388 : Cond.selects RX2 yX2_prop yX2_prop ∈ gA := gA_of (tb_2 112 rfl) rfl
set_option maxRecDepth 8000 in
theorem g_389 : Cond.code yX2_prop cX2_prop 4 (some .int) ∈ gA := gA_of (tb_2 113 rfl) rfl
set_option maxRecDepth 8000 in
theorem t_390 : Cond.stringRef RX2 77 "no such prop" ∈ lw_tbl := tb_2 114 rfl
set_option maxRecDepth 8000 in
theorem t_391 : Cond.stringRef RX2 79 "it has fallen" ∈ lw_tbl := tb_2 115 rfl
set_option maxRecDepth 8000 in
theorem g_392 : Cond.methodLink RX2 85 yX1_setProp ∈ gA := gA_of (tb_2 116 rfl) rfl
set_option maxRecDepth 8000 in
theorem g_393 : Cond.instanceMethod yX1_setProp ∈ gA := gA_of (tb_2 117 rfl) rfl
set_option maxRecDepth 8000 in
theorem g_394 : Cond.selects RX1 yX1_setProp yX1_setProp ∈ gA := gA_of (tb_2 118 rfl) rfl
set_option maxRecDepth 8000 in
theorem g_395 : Cond.code yX1_setProp cX1_setProp 3 none ∈ gA := gA_of (tb_2 119 rfl) rfl
set_option maxRecDepth 8000 in
theorem g_396 : Cond.methodLink RL 90 yL_renew ∈ gA := gA_of (tb_2 120 rfl) rfl
set_option maxRecDepth 8000 in
theorem g_397 : Cond.static yL_renew ∈ gA := gA_of (tb_2 121 rfl) rfl
set_option maxRecDepth 8000 in
theorem g_398 : Cond.codeWith yL_renew cL_renew 5 (some .int) [(0, 10, 13, 21), (0, 10, 17, 13), (0, 10, 21, 15)] ∈ gA := gA_of (tb_2 122 rfl) rfl
set_option maxRecDepth 8000 in
theorem g_399 : Cond.methodLink RL 27 yX2_renew ∈ gA := gA_of (tb_2 123 rfl) rfl
set_option maxRecDepth 8000 in
theorem g_400 : Cond.instanceMethod yX2_renew ∈ gA := gA_of (tb_2 124 rfl) rfl
set_option maxRecDepth 8000 in
theorem g_401 : Cond.selects RX2 yX2_renew yX2_renew ∈ gA := gA_of (tb_2 125 rfl) rfl
set_option maxRecDepth 8000 in
theorem g_402 : Cond.code yX2_renew cX2_renew 4 (some .int) ∈ gA := gA_of (tb_2 126 rfl) rfl
set_option maxRecDepth 8000 in
theorem t_403 : Cond.stringRef RX2 89 "no such power" ∈ lw_tbl := tb_2 127 rfl
set_option maxRecDepth 8000 in
theorem g_404 : Cond.methodLink RX2 91 yX1_hasSpell ∈ gA := gA_of (tb_2 128 rfl) rfl
set_option maxRecDepth 8000 in
theorem g_405 : Cond.instanceMethod yX1_hasSpell ∈ gA := gA_of (tb_2 129 rfl) rfl
set_option maxRecDepth 8000 in
theorem g_406 : Cond.selects RX1 yX1_hasSpell yX1_hasSpell ∈ gA := gA_of (tb_2 130 rfl) rfl
set_option maxRecDepth 8000 in
theorem g_407 : Cond.code yX1_hasSpell cX1_hasSpell 2 (some .boolean) ∈ gA := gA_of (tb_2 131 rfl) rfl
set_option maxRecDepth 8000 in
theorem t_408 : Cond.stringRef RX2 98 "it does not hang by a spell, or the power is less than its load" ∈ lw_tbl := tb_2 132 rfl
set_option maxRecDepth 8000 in
theorem g_409 : Cond.methodLink RL 93 yL_stair ∈ gA := gA_of (tb_2 133 rfl) rfl
set_option maxRecDepth 8000 in
theorem g_410 : Cond.static yL_stair ∈ gA := gA_of (tb_2 134 rfl) rfl
set_option maxRecDepth 8000 in
theorem g_411 : Cond.codeWith yL_stair cL_stair 5 (some .int) [(0, 10, 13, 21), (0, 10, 17, 13), (0, 10, 21, 15)] ∈ gA := gA_of (tb_2 135 rfl) rfl
set_option maxRecDepth 8000 in
theorem g_412 : Cond.methodLink RL 30 yX2_stair ∈ gA := gA_of (tb_2 136 rfl) rfl
set_option maxRecDepth 8000 in
theorem g_413 : Cond.instanceMethod yX2_stair ∈ gA := gA_of (tb_2 137 rfl) rfl
set_option maxRecDepth 8000 in
theorem g_414 : Cond.selects RX2 yX2_stair yX2_stair ∈ gA := gA_of (tb_2 138 rfl) rfl
set_option maxRecDepth 8000 in
theorem g_415 : Cond.code yX2_stair cX2_stair 3 (some .int) ∈ gA := gA_of (tb_2 139 rfl) rfl
set_option maxRecDepth 8000 in
theorem t_416 : Cond.stringRef RX2 103 "both are the same" ∈ lw_tbl := tb_2 140 rfl
set_option maxRecDepth 8000 in
theorem g_417 : Cond.methodLink RX2 105 yX0_isFull ∈ gA := gA_of (tb_2 141 rfl) rfl
set_option maxRecDepth 8000 in
theorem g_418 : Cond.instanceMethod yX0_isFull ∈ gA := gA_of (tb_2 142 rfl) rfl
set_option maxRecDepth 8000 in
theorem g_419 : Cond.selects RX0 yX0_isFull yX0_isFull ∈ gA := gA_of (tb_2 143 rfl) rfl
set_option maxRecDepth 8000 in
theorem g_420 : Cond.code yX0_isFull cX0_isFull 1 (some .boolean) ∈ gA := gA_of (tb_2 144 rfl) rfl
set_option maxRecDepth 8000 in
theorem t_421 : Cond.stringRef RX2 106 "no more stairs, or one of them has fallen" ∈ lw_tbl := tb_2 145 rfl
set_option maxRecDepth 8000 in
theorem g_422 : Cond.methodLink RX2 108 yX0_add ∈ gA := gA_of (tb_2 146 rfl) rfl
set_option maxRecDepth 8000 in
theorem g_423 : Cond.instanceMethod yX0_add ∈ gA := gA_of (tb_2 147 rfl) rfl
set_option maxRecDepth 8000 in
theorem g_424 : Cond.selects RX0 yX0_add yX0_add ∈ gA := gA_of (tb_2 148 rfl) rfl
set_option maxRecDepth 8000 in
theorem g_425 : Cond.code yX0_add cX0_add 4 (some .int) ∈ gA := gA_of (tb_2 149 rfl) rfl
set_option maxRecDepth 8000 in
theorem g_426 : Cond.methodLink RX0 34 yX0_isFull ∈ gA := gA_of (tb_2 150 rfl) rfl
set_option maxRecDepth 8000 in
theorem g_427 : Cond.methodLink RL 96 yL_swap ∈ gA := gA_of (tb_2 151 rfl) rfl
set_option maxRecDepth 8000 in
theorem g_428 : Cond.static yL_swap ∈ gA := gA_of (tb_2 152 rfl) rfl
set_option maxRecDepth 8000 in
theorem g_429 : Cond.codeWith yL_swap cL_swap 5 (some .int) [(0, 17, 20, 21), (0, 17, 24, 13), (0, 17, 28, 15)] ∈ gA := gA_of (tb_2 153 rfl) rfl
set_option maxRecDepth 8000 in
theorem g_430 : Cond.methodLink RL 33 yX2_swap ∈ gA := gA_of (tb_2 154 rfl) rfl
set_option maxRecDepth 8000 in
theorem g_431 : Cond.instanceMethod yX2_swap ∈ gA := gA_of (tb_2 155 rfl) rfl
set_option maxRecDepth 8000 in
theorem g_432 : Cond.selects RX2 yX2_swap yX2_swap ∈ gA := gA_of (tb_2 156 rfl) rfl
set_option maxRecDepth 8000 in
theorem g_433 : Cond.code yX2_swap cX2_swap 3 (some .boolean) ∈ gA := gA_of (tb_2 157 rfl) rfl
set_option maxRecDepth 8000 in
theorem g_434 : Cond.methodLink RX2 112 yX0_has ∈ gA := gA_of (tb_2 158 rfl) rfl
set_option maxRecDepth 8000 in
theorem t_435 : Cond.stringRef RX2 113 "no such stair" ∈ lw_tbl := tb_2 159 rfl
set_option maxRecDepth 8000 in
theorem g_436 : Cond.methodLink RX2 115 yX0_isGone ∈ gA := gA_of (tb_2 160 rfl) rfl
set_option maxRecDepth 8000 in
theorem t_437 : Cond.stringRef RX2 119 "one of them is gone" ∈ lw_tbl := tb_2 161 rfl
set_option maxRecDepth 8000 in
theorem g_438 : Cond.methodLink RX2 121 yX0_exchangeEnds ∈ gA := gA_of (tb_2 162 rfl) rfl
set_option maxRecDepth 8000 in
theorem g_439 : Cond.instanceMethod yX0_exchangeEnds ∈ gA := gA_of (tb_2 163 rfl) rfl
set_option maxRecDepth 8000 in
theorem g_440 : Cond.selects RX0 yX0_exchangeEnds yX0_exchangeEnds ∈ gA := gA_of (tb_2 164 rfl) rfl
set_option maxRecDepth 8000 in
theorem g_441 : Cond.code yX0_exchangeEnds cX0_exchangeEnds 4 (some .boolean) ∈ gA := gA_of (tb_2 165 rfl) rfl
set_option maxRecDepth 8000 in
theorem g_442 : Cond.methodLink RL 99 yL_joins ∈ gA := gA_of (tb_2 166 rfl) rfl
set_option maxRecDepth 8000 in
theorem g_443 : Cond.static yL_joins ∈ gA := gA_of (tb_2 167 rfl) rfl
set_option maxRecDepth 8000 in
theorem g_444 : Cond.codeWith yL_joins cL_joins 5 (some .int) [(0, 10, 13, 21)] ∈ gA := gA_of (tb_2 168 rfl) rfl
set_option maxRecDepth 8000 in
theorem g_445 : Cond.methodLink RL 37 yX2_joins ∈ gA := gA_of (tb_2 169 rfl) rfl
set_option maxRecDepth 8000 in
theorem g_446 : Cond.instanceMethod yX2_joins ∈ gA := gA_of (tb_2 170 rfl) rfl
set_option maxRecDepth 8000 in
theorem g_447 : Cond.selects RX2 yX2_joins yX2_joins ∈ gA := gA_of (tb_2 171 rfl) rfl
set_option maxRecDepth 8000 in
theorem g_448 : Cond.code yX2_joins cX2_joins 3 (some .int) ∈ gA := gA_of (tb_2 172 rfl) rfl
set_option maxRecDepth 8000 in
theorem t_449 : Cond.stringRef RX2 124 "no such stair, or nothing to tell" ∈ lw_tbl := tb_2 173 rfl
set_option maxRecDepth 8000 in
theorem g_450 : Cond.methodLink RL 102 yL_steps ∈ gA := gA_of (tb_2 174 rfl) rfl
set_option maxRecDepth 8000 in
theorem g_451 : Cond.static yL_steps ∈ gA := gA_of (tb_2 175 rfl) rfl
set_option maxRecDepth 8000 in
theorem g_452 : Cond.codeWith yL_steps cL_steps 5 (some .int) [(0, 10, 13, 21)] ∈ gA := gA_of (tb_2 176 rfl) rfl
set_option maxRecDepth 8000 in
theorem g_453 : Cond.methodLink RL 40 yX2_steps ∈ gA := gA_of (tb_2 177 rfl) rfl
set_option maxRecDepth 8000 in
theorem g_454 : Cond.instanceMethod yX2_steps ∈ gA := gA_of (tb_2 178 rfl) rfl
set_option maxRecDepth 8000 in
theorem g_455 : Cond.selects RX2 yX2_steps yX2_steps ∈ gA := gA_of (tb_2 179 rfl) rfl
set_option maxRecDepth 8000 in
theorem g_456 : Cond.code yX2_steps cX2_steps 3 (some .int) ∈ gA := gA_of (tb_2 180 rfl) rfl
set_option maxRecDepth 8000 in
theorem g_457 : Cond.methodLink RX2 130 yX0_fewestSteps ∈ gA := gA_of (tb_2 181 rfl) rfl
set_option maxRecDepth 8000 in
theorem g_458 : Cond.instanceMethod yX0_fewestSteps ∈ gA := gA_of (tb_2 182 rfl) rfl
set_option maxRecDepth 8000 in
theorem g_459 : Cond.selects RX0 yX0_fewestSteps yX0_fewestSteps ∈ gA := gA_of (tb_2 183 rfl) rfl
set_option maxRecDepth 8000 in
theorem g_460 : Cond.code yX0_fewestSteps cX0_fewestSteps 6 (some .int) ∈ gA := gA_of (tb_2 184 rfl) rfl
set_option maxRecDepth 8000 in
theorem g_461 : Cond.methodLink RX0 42 yX1_has ∈ gA := gA_of (tb_2 185 rfl) rfl
set_option maxRecDepth 8000 in
theorem g_462 : Cond.methodLink RX0 43 yX0_reachFrom ∈ gA := gA_of (tb_2 186 rfl) rfl
set_option maxRecDepth 8000 in
theorem t_463 : Cond.privateMethod yX0_reachFrom ∈ lw_tbl := tb_2 187 rfl
set_option maxRecDepth 8000 in
theorem g_464 : Cond.instanceMethod yX0_reachFrom ∈ gA := gA_of (tb_2 188 rfl) rfl
set_option maxRecDepth 8000 in
theorem g_465 : Cond.code yX0_reachFrom cX0_reachFrom 5 (some .boolean) ∈ gA := gA_of (tb_2 189 rfl) rfl
set_option maxRecDepth 8000 in
theorem g_466 : Cond.methodLink RX0 46 yX0_stepOver ∈ gA := gA_of (tb_2 190 rfl) rfl
set_option maxRecDepth 8000 in
theorem t_467 : Cond.privateMethod yX0_stepOver ∈ lw_tbl := tb_2 191 rfl
set_option maxRecDepth 8000 in
theorem g_468 : Cond.instanceMethod yX0_stepOver ∈ gA := gA_of (tb_2 192 rfl) rfl
set_option maxRecDepth 8000 in
theorem g_469 : Cond.code yX0_stepOver cX0_stepOver 4 (some .boolean) ∈ gA := gA_of (tb_2 193 rfl) rfl
set_option maxRecDepth 8000 in
theorem g_470 : Cond.methodLink RX0 50 yX0_isPlace ∈ gA := gA_of (tb_2 194 rfl) rfl
set_option maxRecDepth 8000 in
theorem g_471 : Cond.static yX0_isPlace ∈ gA := gA_of (tb_2 195 rfl) rfl
set_option maxRecDepth 8000 in
theorem g_472 : Cond.code yX0_isPlace cX0_isPlace 1 (some .boolean) ∈ gA := gA_of (tb_2 196 rfl) rfl
set_option maxRecDepth 8000 in
theorem g_473 : Cond.methodLink RL 105 yL_stone ∈ gA := gA_of (tb_2 197 rfl) rfl
set_option maxRecDepth 8000 in
theorem g_474 : Cond.static yL_stone ∈ gA := gA_of (tb_2 198 rfl) rfl
set_option maxRecDepth 8000 in
theorem g_475 : Cond.codeWith yL_stone cL_stone 5 (some .int) [(0, 10, 13, 21)] ∈ gA := gA_of (tb_2 199 rfl) rfl
set_option maxRecDepth 8000 in
theorem g_476 : Cond.methodLink RL 43 yX2_stone ∈ gA := gA_of (tb_2 200 rfl) rfl
set_option maxRecDepth 8000 in
theorem g_477 : Cond.instanceMethod yX2_stone ∈ gA := gA_of (tb_2 201 rfl) rfl
set_option maxRecDepth 8000 in
theorem g_478 : Cond.selects RX2 yX2_stone yX2_stone ∈ gA := gA_of (tb_2 202 rfl) rfl
set_option maxRecDepth 8000 in
theorem g_479 : Cond.code yX2_stone cX2_stone 3 (some .int) ∈ gA := gA_of (tb_2 203 rfl) rfl
set_option maxRecDepth 8000 in
theorem t_480 : Cond.stringRef RX2 133 "no such stone, or nothing to tell" ∈ lw_tbl := tb_2 204 rfl
set_option maxRecDepth 8000 in
theorem g_481 : Cond.methodLink RL 108 yL_first ∈ gA := gA_of (tb_2 205 rfl) rfl
set_option maxRecDepth 8000 in
theorem g_482 : Cond.static yL_first ∈ gA := gA_of (tb_2 206 rfl) rfl
set_option maxRecDepth 8000 in
theorem g_483 : Cond.codeWith yL_first cL_first 4 (some .int) [(0, 9, 12, 21)] ∈ gA := gA_of (tb_2 207 rfl) rfl
set_option maxRecDepth 8000 in
theorem g_484 : Cond.methodLink RL 46 yX2_first ∈ gA := gA_of (tb_2 208 rfl) rfl
set_option maxRecDepth 8000 in
theorem g_485 : Cond.instanceMethod yX2_first ∈ gA := gA_of (tb_2 209 rfl) rfl
set_option maxRecDepth 8000 in
theorem g_486 : Cond.selects RX2 yX2_first yX2_first ∈ gA := gA_of (tb_2 210 rfl) rfl
set_option maxRecDepth 8000 in
theorem g_487 : Cond.code yX2_first cX2_first 2 (some .int) ∈ gA := gA_of (tb_2 211 rfl) rfl
set_option maxRecDepth 8000 in
theorem g_488 : Cond.methodLink RX2 137 yX1_topOf ∈ gA := gA_of (tb_2 212 rfl) rfl
set_option maxRecDepth 8000 in
theorem g_489 : Cond.instanceMethod yX1_topOf ∈ gA := gA_of (tb_2 213 rfl) rfl
set_option maxRecDepth 8000 in
theorem g_490 : Cond.selects RX1 yX1_topOf yX1_topOf ∈ gA := gA_of (tb_2 214 rfl) rfl
set_option maxRecDepth 8000 in
theorem g_491 : Cond.code yX1_topOf cX1_topOf 4 (some .int) ∈ gA := gA_of (tb_2 215 rfl) rfl
set_option maxRecDepth 8000 in
theorem g_492 : Cond.methodLink RL 112 yL_count ∈ gA := gA_of (tb_2 216 rfl) rfl
set_option maxRecDepth 8000 in
theorem g_493 : Cond.static yL_count ∈ gA := gA_of (tb_2 217 rfl) rfl
set_option maxRecDepth 8000 in
theorem g_494 : Cond.codeWith yL_count cL_count 4 (some .int) [(0, 9, 12, 21)] ∈ gA := gA_of (tb_2 218 rfl) rfl
set_option maxRecDepth 8000 in
theorem g_495 : Cond.methodLink RL 50 yX2_count ∈ gA := gA_of (tb_2 219 rfl) rfl
set_option maxRecDepth 8000 in
theorem g_496 : Cond.instanceMethod yX2_count ∈ gA := gA_of (tb_2 220 rfl) rfl
set_option maxRecDepth 8000 in
theorem g_497 : Cond.selects RX2 yX2_count yX2_count ∈ gA := gA_of (tb_2 221 rfl) rfl
set_option maxRecDepth 8000 in
theorem g_498 : Cond.code yX2_count cX2_count 2 (some .int) ∈ gA := gA_of (tb_2 222 rfl) rfl
set_option maxRecDepth 8000 in
theorem t_499 : Cond.stringRef RX2 141 "nothing to tell" ∈ lw_tbl := tb_2 223 rfl
set_option maxRecDepth 8000 in
theorem g_500 : Cond.methodLink RL 115 yL_pass ∈ gA := gA_of (tb_2 224 rfl) rfl
set_option maxRecDepth 8000 in
theorem g_501 : Cond.static yL_pass ∈ gA := gA_of (tb_2 225 rfl) rfl
set_option maxRecDepth 8000 in
theorem g_502 : Cond.codeWith yL_pass cL_pass 4 (some .int) [(0, 9, 12, 13)] ∈ gA := gA_of (tb_2 226 rfl) rfl
set_option maxRecDepth 8000 in
theorem g_503 : Cond.methodLink RL 53 yX2_pass ∈ gA := gA_of (tb_2 227 rfl) rfl
set_option maxRecDepth 8000 in
theorem g_504 : Cond.instanceMethod yX2_pass ∈ gA := gA_of (tb_2 228 rfl) rfl
set_option maxRecDepth 8000 in
theorem g_505 : Cond.selects RX2 yX2_pass yX2_pass ∈ gA := gA_of (tb_2 229 rfl) rfl
set_option maxRecDepth 8000 in
theorem g_506 : Cond.code yX2_pass cX2_pass 3 (some .int) ∈ gA := gA_of (tb_2 230 rfl) rfl
set_option maxRecDepth 8000 in
theorem t_507 : Cond.stringRef RX2 146 "no such days" ∈ lw_tbl := tb_2 231 rfl
set_option maxRecDepth 8000 in
theorem g_508 : Cond.methodLink RX2 148 yX1_liveDays ∈ gA := gA_of (tb_2 232 rfl) rfl
set_option maxRecDepth 8000 in
theorem g_509 : Cond.instanceMethod yX1_liveDays ∈ gA := gA_of (tb_2 233 rfl) rfl
set_option maxRecDepth 8000 in
theorem g_510 : Cond.selects RX1 yX1_liveDays yX1_liveDays ∈ gA := gA_of (tb_2 234 rfl) rfl
set_option maxRecDepth 8000 in
theorem g_511 : Cond.code yX1_liveDays cX1_liveDays 3 none ∈ gA := gA_of (tb_2 235 rfl) rfl
set_option maxRecDepth 8000 in
theorem g_512 : Cond.methodLink RX1 98 yX1_liveDay ∈ gA := gA_of (tb_2 236 rfl) rfl
set_option maxRecDepth 8000 in
theorem g_513 : Cond.instanceMethod yX1_liveDay ∈ gA := gA_of (tb_2 237 rfl) rfl
set_option maxRecDepth 8000 in
theorem g_514 : Cond.selects RX1 yX1_liveDay yX1_liveDay ∈ gA := gA_of (tb_2 238 rfl) rfl
set_option maxRecDepth 8000 in
theorem g_515 : Cond.code yX1_liveDay cX1_liveDay 1 none ∈ gA := gA_of (tb_2 239 rfl) rfl
set_option maxRecDepth 8000 in
theorem g_516 : Cond.methodLink RX1 101 yX1_fade ∈ gA := gA_of (tb_3 0 rfl) rfl
set_option maxRecDepth 8000 in
theorem t_517 : Cond.privateMethod yX1_fade ∈ lw_tbl := tb_3 1 rfl
set_option maxRecDepth 8000 in
theorem g_518 : Cond.instanceMethod yX1_fade ∈ gA := gA_of (tb_3 2 rfl) rfl
set_option maxRecDepth 8000 in
theorem g_519 : Cond.code yX1_fade cX1_fade 2 none ∈ gA := gA_of (tb_3 3 rfl) rfl
set_option maxRecDepth 8000 in
theorem g_520 : Cond.methodLink RX1 95 yX1_giveWay ∈ gA := gA_of (tb_3 4 rfl) rfl
set_option maxRecDepth 8000 in
theorem g_521 : Cond.methodLink RL 118 yL_without ∈ gA := gA_of (tb_3 5 rfl) rfl
set_option maxRecDepth 8000 in
theorem g_522 : Cond.static yL_without ∈ gA := gA_of (tb_3 6 rfl) rfl
set_option maxRecDepth 8000 in
theorem g_523 : Cond.codeWith yL_without cL_without 4 (some .int) [(0, 9, 12, 21)] ∈ gA := gA_of (tb_3 7 rfl) rfl
set_option maxRecDepth 8000 in
theorem g_524 : Cond.methodLink RL 56 yX2_without ∈ gA := gA_of (tb_3 8 rfl) rfl
set_option maxRecDepth 8000 in
theorem g_525 : Cond.instanceMethod yX2_without ∈ gA := gA_of (tb_3 9 rfl) rfl
set_option maxRecDepth 8000 in
theorem g_526 : Cond.selects RX2 yX2_without yX2_without ∈ gA := gA_of (tb_3 10 rfl) rfl
set_option maxRecDepth 8000 in
theorem g_527 : Cond.code yX2_without cX2_without 2 (some .int) ∈ gA := gA_of (tb_3 11 rfl) rfl
set_option maxRecDepth 8000 in
theorem g_528 : Cond.methodLink RX2 152 yX1_copyFrom ∈ gA := gA_of (tb_3 12 rfl) rfl
set_option maxRecDepth 8000 in
theorem g_529 : Cond.instanceMethod yX1_copyFrom ∈ gA := gA_of (tb_3 13 rfl) rfl
set_option maxRecDepth 8000 in
theorem g_530 : Cond.selects RX1 yX1_copyFrom yX1_copyFrom ∈ gA := gA_of (tb_3 14 rfl) rfl
set_option maxRecDepth 8000 in
theorem g_531 : Cond.code yX1_copyFrom cX1_copyFrom 3 none ∈ gA := gA_of (tb_3 15 rfl) rfl
set_option maxRecDepth 8000 in
theorem g_532 : Cond.methodLink RX2 156 yX1_cutLoose ∈ gA := gA_of (tb_3 16 rfl) rfl
set_option maxRecDepth 8000 in
theorem g_533 : Cond.instanceMethod yX1_cutLoose ∈ gA := gA_of (tb_3 17 rfl) rfl
set_option maxRecDepth 8000 in
theorem g_534 : Cond.selects RX1 yX1_cutLoose yX1_cutLoose ∈ gA := gA_of (tb_3 18 rfl) rfl
set_option maxRecDepth 8000 in
theorem g_535 : Cond.code yX1_cutLoose cX1_cutLoose 2 none ∈ gA := gA_of (tb_3 19 rfl) rfl
set_option maxRecDepth 8000 in
theorem g_536 : Cond.methodLink RL 121 yL_lasts ∈ gA := gA_of (tb_3 20 rfl) rfl
set_option maxRecDepth 8000 in
theorem g_537 : Cond.static yL_lasts ∈ gA := gA_of (tb_3 21 rfl) rfl
set_option maxRecDepth 8000 in
theorem g_538 : Cond.codeWith yL_lasts cL_lasts 4 (some .int) [(0, 9, 12, 21)] ∈ gA := gA_of (tb_3 22 rfl) rfl
set_option maxRecDepth 8000 in
theorem g_539 : Cond.methodLink RL 59 yX2_lasts ∈ gA := gA_of (tb_3 23 rfl) rfl
set_option maxRecDepth 8000 in
theorem g_540 : Cond.instanceMethod yX2_lasts ∈ gA := gA_of (tb_3 24 rfl) rfl
set_option maxRecDepth 8000 in
theorem g_541 : Cond.selects RX2 yX2_lasts yX2_lasts ∈ gA := gA_of (tb_3 25 rfl) rfl
set_option maxRecDepth 8000 in
theorem g_542 : Cond.code yX2_lasts cX2_lasts 3 (some .int) ∈ gA := gA_of (tb_3 26 rfl) rfl
set_option maxRecDepth 8000 in
theorem g_543 : Cond.methodLink RX2 159 yX1_liveDay ∈ gA := gA_of (tb_3 27 rfl) rfl
set_option maxRecDepth 8000 in
theorem g_544 : Cond.methodLink RL 124 yL_foresee ∈ gA := gA_of (tb_3 28 rfl) rfl
set_option maxRecDepth 8000 in
theorem g_545 : Cond.static yL_foresee ∈ gA := gA_of (tb_3 29 rfl) rfl
set_option maxRecDepth 8000 in
theorem g_546 : Cond.codeWith yL_foresee cL_foresee 5 (some .int) [(0, 10, 13, 13), (0, 10, 17, 21)] ∈ gA := gA_of (tb_3 30 rfl) rfl
set_option maxRecDepth 8000 in
theorem g_547 : Cond.methodLink RL 62 yX2_foresee ∈ gA := gA_of (tb_3 31 rfl) rfl
set_option maxRecDepth 8000 in
theorem g_548 : Cond.instanceMethod yX2_foresee ∈ gA := gA_of (tb_3 32 rfl) rfl
set_option maxRecDepth 8000 in
theorem g_549 : Cond.selects RX2 yX2_foresee yX2_foresee ∈ gA := gA_of (tb_3 33 rfl) rfl
set_option maxRecDepth 8000 in
theorem g_550 : Cond.code yX2_foresee cX2_foresee 3 (some .int) ∈ gA := gA_of (tb_3 34 rfl) rfl
set_option maxRecDepth 8000 in
theorem g_551 : Cond.methodLink RL 127 yL_advise ∈ gA := gA_of (tb_3 35 rfl) rfl
set_option maxRecDepth 8000 in
theorem g_552 : Cond.static yL_advise ∈ gA := gA_of (tb_3 36 rfl) rfl
set_option maxRecDepth 8000 in
theorem g_553 : Cond.codeWith yL_advise cL_advise 5 (some .int) [(0, 10, 13, 13)] ∈ gA := gA_of (tb_3 37 rfl) rfl
set_option maxRecDepth 8000 in
theorem g_554 : Cond.methodLink RL 65 yX2_advise ∈ gA := gA_of (tb_3 38 rfl) rfl
set_option maxRecDepth 8000 in
theorem g_555 : Cond.instanceMethod yX2_advise ∈ gA := gA_of (tb_3 39 rfl) rfl
set_option maxRecDepth 8000 in
theorem g_556 : Cond.selects RX2 yX2_advise yX2_advise ∈ gA := gA_of (tb_3 40 rfl) rfl
set_option maxRecDepth 8000 in
theorem g_557 : Cond.code yX2_advise cX2_advise 7 (some .int) ∈ gA := gA_of (tb_3 41 rfl) rfl
set_option maxRecDepth 8000 in
theorem t_558 : Cond.stringRef RX2 170 "no such prop or days" ∈ lw_tbl := tb_3 42 rfl
set_option maxRecDepth 8000 in
theorem g_559 : Cond.methodLink RX2 178 ⟨"java/lang/Math", "min", "(II)I"⟩ ∈ gA := gA_of (tb_3 43 rfl) rfl
set_option maxRecDepth 8000 in
theorem g_560 : Cond.static ⟨"java/lang/Math", "min", "(II)I"⟩ ∈ gA := gA_of (tb_3 44 rfl) rfl
set_option maxRecDepth 8000 in
theorem g_561 : Cond.code ⟨"java/lang/Math", "min", "(II)I"⟩ prog_11_method_69_code 2 (some .int) ∈ gA := gA_of (tb_3 45 rfl) rfl
set_option maxRecDepth 8000 in
theorem g_562 : Cond.methodLink RX2 183 yX2_leftWith ∈ gA := gA_of (tb_3 46 rfl) rfl
set_option maxRecDepth 8000 in
theorem t_563 : Cond.privateMethod yX2_leftWith ∈ lw_tbl := tb_3 47 rfl
set_option maxRecDepth 8000 in
theorem g_564 : Cond.instanceMethod yX2_leftWith ∈ gA := gA_of (tb_3 48 rfl) rfl
set_option maxRecDepth 8000 in
theorem g_565 : Cond.code yX2_leftWith cX2_leftWith 4 (some .int) ∈ gA := gA_of (tb_3 49 rfl) rfl
set_option maxRecDepth 8000 in
theorem g_566 : Cond.classLink RL 69 RX3 ∈ gA := gA_of (tb_3 50 rfl) rfl
set_option maxRecDepth 8000 in
theorem g_567 : Cond.instantiable RX3 9 ∈ gA := gA_of (tb_3 51 rfl) rfl
set_option maxRecDepth 8000 in
theorem g_568 : Cond.methodLink RL 71 yX3_init ∈ gA := gA_of (tb_3 52 rfl) rfl
set_option maxRecDepth 8000 in
theorem g_569 : Cond.instanceMethod yX3_init ∈ gA := gA_of (tb_3 53 rfl) rfl
set_option maxRecDepth 8000 in
theorem g_570 : Cond.code yX3_init cX3_init 1 none ∈ gA := gA_of (tb_3 54 rfl) rfl
set_option maxRecDepth 8000 in
theorem g_571 : Cond.methodLink RX3 1 ⟨"java/lang/Object", "<init>", "()V"⟩ ∈ gA := gA_of (tb_3 55 rfl) rfl
set_option maxRecDepth 8000 in
theorem g_572 : Cond.fieldLink RX3 28 RX3 "thrown" "I" ∈ gA := gA_of (tb_3 56 rfl) rfl
set_option maxRecDepth 8000 in
theorem g_573 : Cond.fieldLink RX3 32 RX3 "stones" "I" ∈ gA := gA_of (tb_3 57 rfl) rfl
set_option maxRecDepth 8000 in
theorem g_574 : Cond.fieldLink RX3 63 RX3 "stairs" "I" ∈ gA := gA_of (tb_3 58 rfl) rfl
set_option maxRecDepth 8000 in
theorem g_575 : Cond.fieldLink RX3 9 RX3 "tower" "[I" ∈ gA := gA_of (tb_3 59 rfl) rfl
set_option maxRecDepth 8000 in
theorem g_576 : Cond.fieldLink RX3 13 RX3 "ways" "[I" ∈ gA := gA_of (tb_3 60 rfl) rfl
set_option maxRecDepth 8000 in
theorem g_577 : Cond.fieldLink RX3 16 RX3 "day" "[I" ∈ gA := gA_of (tb_3 61 rfl) rfl
set_option maxRecDepth 8000 in
theorem g_578 : Cond.fieldLink RX3 19 RX3 "loads" "[I" ∈ gA := gA_of (tb_3 62 rfl) rfl
set_option maxRecDepth 8000 in
theorem g_579 : Cond.fieldLink RX3 22 RX3 "pulls" "[I" ∈ gA := gA_of (tb_3 63 rfl) rfl
set_option maxRecDepth 8000 in
theorem g_580 : Cond.fieldLink RX3 25 RX3 "away" "[I" ∈ gA := gA_of (tb_3 64 rfl) rfl
set_option maxRecDepth 8000 in
theorem g_581 : Cond.lays RX3 RX3 "thrown" "I" ∈ gA := gA_of (tb_3 65 rfl) rfl
set_option maxRecDepth 8000 in
theorem g_582 : Cond.soleField RX3 "thrown" ∈ gA := gA_of (tb_3 66 rfl) rfl
set_option maxRecDepth 8000 in
theorem g_583 : Cond.lays RX3 RX3 "stones" "I" ∈ gA := gA_of (tb_3 67 rfl) rfl
set_option maxRecDepth 8000 in
theorem g_584 : Cond.soleField RX3 "stones" ∈ gA := gA_of (tb_3 68 rfl) rfl
set_option maxRecDepth 8000 in
theorem g_585 : Cond.lays RX3 RX3 "stairs" "I" ∈ gA := gA_of (tb_3 69 rfl) rfl
set_option maxRecDepth 8000 in
theorem g_586 : Cond.soleField RX3 "stairs" ∈ gA := gA_of (tb_3 70 rfl) rfl
set_option maxRecDepth 8000 in
theorem g_587 : Cond.laysFinal RX3 RX3 "tower" "[I" ∈ gA := gA_of (tb_3 71 rfl) rfl
set_option maxRecDepth 8000 in
theorem g_588 : Cond.soleField RX3 "tower" ∈ gA := gA_of (tb_3 72 rfl) rfl
set_option maxRecDepth 8000 in
theorem g_589 : Cond.laysFinal RX3 RX3 "ways" "[I" ∈ gA := gA_of (tb_3 73 rfl) rfl
set_option maxRecDepth 8000 in
theorem g_590 : Cond.soleField RX3 "ways" ∈ gA := gA_of (tb_3 74 rfl) rfl
set_option maxRecDepth 8000 in
theorem g_591 : Cond.laysFinal RX3 RX3 "day" "[I" ∈ gA := gA_of (tb_3 75 rfl) rfl
set_option maxRecDepth 8000 in
theorem g_592 : Cond.soleField RX3 "day" ∈ gA := gA_of (tb_3 76 rfl) rfl
set_option maxRecDepth 8000 in
theorem g_593 : Cond.laysFinal RX3 RX3 "loads" "[I" ∈ gA := gA_of (tb_3 77 rfl) rfl
set_option maxRecDepth 8000 in
theorem g_594 : Cond.soleField RX3 "loads" ∈ gA := gA_of (tb_3 78 rfl) rfl
set_option maxRecDepth 8000 in
theorem g_595 : Cond.laysFinal RX3 RX3 "pulls" "[I" ∈ gA := gA_of (tb_3 79 rfl) rfl
set_option maxRecDepth 8000 in
theorem g_596 : Cond.soleField RX3 "pulls" ∈ gA := gA_of (tb_3 80 rfl) rfl
set_option maxRecDepth 8000 in
theorem g_597 : Cond.laysFinal RX3 RX3 "away" "[I" ∈ gA := gA_of (tb_3 81 rfl) rfl
set_option maxRecDepth 8000 in
theorem g_598 : Cond.soleField RX3 "away" ∈ gA := gA_of (tb_3 82 rfl) rfl
set_option maxRecDepth 8000 in
theorem g_599 : Cond.superclass RX3 "java/lang/Object" ∈ gA := gA_of (tb_3 83 rfl) rfl
set_option maxRecDepth 8000 in
theorem g_600 : Cond.methodLink RL 78 yX3_thrown ∈ gA := gA_of (tb_3 84 rfl) rfl
set_option maxRecDepth 8000 in
theorem g_601 : Cond.instanceMethod yX3_thrown ∈ gA := gA_of (tb_3 85 rfl) rfl
set_option maxRecDepth 8000 in
theorem g_602 : Cond.selects RX3 yX3_thrown yX3_thrown ∈ gA := gA_of (tb_3 86 rfl) rfl
set_option maxRecDepth 8000 in
theorem g_603 : Cond.code yX3_thrown cX3_thrown 1 (some .int) ∈ gA := gA_of (tb_3 87 rfl) rfl
set_option maxRecDepth 8000 in
theorem g_604 : Cond.methodLink RL 77 yX3_conjure ∈ gA := gA_of (tb_3 88 rfl) rfl
set_option maxRecDepth 8000 in
theorem g_605 : Cond.instanceMethod yX3_conjure ∈ gA := gA_of (tb_3 89 rfl) rfl
set_option maxRecDepth 8000 in
theorem g_606 : Cond.selects RX3 yX3_conjure yX3_conjure ∈ gA := gA_of (tb_3 90 rfl) rfl
set_option maxRecDepth 8000 in
theorem g_607 : Cond.code yX3_conjure cX3_conjure 4 (some .int) ∈ gA := gA_of (tb_3 91 rfl) rfl
set_option maxRecDepth 8000 in
theorem g_608 : Cond.methodLink RX3 35 yX3_isIn ∈ gA := gA_of (tb_3 92 rfl) rfl
set_option maxRecDepth 8000 in
theorem g_609 : Cond.static yX3_isIn ∈ gA := gA_of (tb_3 93 rfl) rfl
set_option maxRecDepth 8000 in
theorem g_610 : Cond.code yX3_isIn cX3_isIn 3 (some .boolean) ∈ gA := gA_of (tb_3 94 rfl) rfl
set_option maxRecDepth 8000 in
theorem g_611 : Cond.methodLink RX3 88 yX3_fail ∈ gA := gA_of (tb_3 95 rfl) rfl
set_option maxRecDepth 8000 in
theorem t_612 : Cond.privateMethod yX3_fail ∈ lw_tbl := tb_3 96 rfl
set_option maxRecDepth 8000 in
theorem g_613 : Cond.instanceMethod yX3_fail ∈ gA := gA_of (tb_3 97 rfl) rfl
set_option maxRecDepth 8000 in
theorem g_614 : Cond.code yX3_fail cX3_fail 2 (some .int) ∈ gA := gA_of (tb_3 98 rfl) rfl
set_option maxRecDepth 8000 in
theorem g_615 : Cond.methodLink RX3 92 yX3_stone ∈ gA := gA_of (tb_3 99 rfl) rfl
set_option maxRecDepth 8000 in
theorem t_616 : Cond.privateMethod yX3_stone ∈ lw_tbl := tb_3 100 rfl
set_option maxRecDepth 8000 in
theorem g_617 : Cond.instanceMethod yX3_stone ∈ gA := gA_of (tb_3 101 rfl) rfl
set_option maxRecDepth 8000 in
theorem g_618 : Cond.code yX3_stone cX3_stone 7 (some .int) ∈ gA := gA_of (tb_3 102 rfl) rfl
set_option maxRecDepth 8000 in
theorem g_619 : Cond.methodLink RX3 79 ⟨"java/lang/System", "arraycopy", "(Ljava/lang/Object;ILjava/lang/Object;II)V"⟩ ∈ gA := gA_of (tb_3 103 rfl) rfl
set_option maxRecDepth 8000 in
theorem g_620 : Cond.static ⟨"java/lang/System", "arraycopy", "(Ljava/lang/Object;ILjava/lang/Object;II)V"⟩ ∈ gA := gA_of (tb_3 104 rfl) rfl
set_option maxRecDepth 8000 in
theorem g_621 : Cond.native ⟨"java/lang/System", "arraycopy", "(Ljava/lang/Object;ILjava/lang/Object;II)V"⟩ ∈ gA := gA_of (tb_3 105 rfl) rfl
set_option maxRecDepth 8000 in
theorem g_622 : Cond.methodLink RX3 85 yX3_giveWay ∈ gA := gA_of (tb_3 106 rfl) rfl
set_option maxRecDepth 8000 in
theorem t_623 : Cond.privateMethod yX3_giveWay ∈ lw_tbl := tb_3 107 rfl
set_option maxRecDepth 8000 in
theorem g_624 : Cond.instanceMethod yX3_giveWay ∈ gA := gA_of (tb_3 108 rfl) rfl
set_option maxRecDepth 8000 in
theorem g_625 : Cond.code yX3_giveWay cX3_giveWay 3 none ∈ gA := gA_of (tb_3 109 rfl) rfl
set_option maxRecDepth 8000 in
theorem g_626 : Cond.methodLink RX3 73 yX3_reckon ∈ gA := gA_of (tb_3 110 rfl) rfl
set_option maxRecDepth 8000 in
theorem t_627 : Cond.privateMethod yX3_reckon ∈ lw_tbl := tb_3 111 rfl
set_option maxRecDepth 8000 in
theorem g_628 : Cond.instanceMethod yX3_reckon ∈ gA := gA_of (tb_3 112 rfl) rfl
set_option maxRecDepth 8000 in
theorem g_629 : Cond.code yX3_reckon cX3_reckon 3 none ∈ gA := gA_of (tb_3 113 rfl) rfl
set_option maxRecDepth 8000 in
theorem g_630 : Cond.methodLink RX3 43 yX3_hangs ∈ gA := gA_of (tb_3 114 rfl) rfl
set_option maxRecDepth 8000 in
theorem t_631 : Cond.privateMethod yX3_hangs ∈ lw_tbl := tb_3 115 rfl
set_option maxRecDepth 8000 in
theorem g_632 : Cond.instanceMethod yX3_hangs ∈ gA := gA_of (tb_3 116 rfl) rfl
set_option maxRecDepth 8000 in
theorem g_633 : Cond.code yX3_hangs cX3_hangs 2 (some .boolean) ∈ gA := gA_of (tb_3 117 rfl) rfl
set_option maxRecDepth 8000 in
theorem g_634 : Cond.methodLink RX3 39 yX3_to ∈ gA := gA_of (tb_3 118 rfl) rfl
set_option maxRecDepth 8000 in
theorem t_635 : Cond.privateMethod yX3_to ∈ lw_tbl := tb_3 119 rfl
set_option maxRecDepth 8000 in
theorem g_636 : Cond.instanceMethod yX3_to ∈ gA := gA_of (tb_3 120 rfl) rfl
set_option maxRecDepth 8000 in
theorem g_637 : Cond.code yX3_to cX3_to 3 (some .int) ∈ gA := gA_of (tb_3 121 rfl) rfl
set_option maxRecDepth 8000 in
theorem g_638 : Cond.methodLink RX3 47 ⟨"java/lang/Math", "max", "(II)I"⟩ ∈ gA := gA_of (tb_3 122 rfl) rfl
set_option maxRecDepth 8000 in
theorem g_639 : Cond.methodLink RX3 60 yX3_tear ∈ gA := gA_of (tb_3 123 rfl) rfl
set_option maxRecDepth 8000 in
theorem t_640 : Cond.privateMethod yX3_tear ∈ lw_tbl := tb_3 124 rfl
set_option maxRecDepth 8000 in
theorem g_641 : Cond.instanceMethod yX3_tear ∈ gA := gA_of (tb_3 125 rfl) rfl
set_option maxRecDepth 8000 in
theorem g_642 : Cond.code yX3_tear cX3_tear 4 (some .boolean) ∈ gA := gA_of (tb_3 126 rfl) rfl
set_option maxRecDepth 8000 in
theorem g_643 : Cond.methodLink RX3 52 yX3_isHeldBy ∈ gA := gA_of (tb_3 127 rfl) rfl
set_option maxRecDepth 8000 in
theorem t_644 : Cond.privateMethod yX3_isHeldBy ∈ lw_tbl := tb_3 128 rfl
set_option maxRecDepth 8000 in
theorem g_645 : Cond.instanceMethod yX3_isHeldBy ∈ gA := gA_of (tb_3 129 rfl) rfl
set_option maxRecDepth 8000 in
theorem g_646 : Cond.code yX3_isHeldBy cX3_isHeldBy 3 (some .boolean) ∈ gA := gA_of (tb_3 130 rfl) rfl
set_option maxRecDepth 8000 in
theorem g_647 : Cond.methodLink RX3 56 yX3_put ∈ gA := gA_of (tb_3 131 rfl) rfl
set_option maxRecDepth 8000 in
theorem t_648 : Cond.privateMethod yX3_put ∈ lw_tbl := tb_3 132 rfl
set_option maxRecDepth 8000 in
theorem g_649 : Cond.instanceMethod yX3_put ∈ gA := gA_of (tb_3 133 rfl) rfl
set_option maxRecDepth 8000 in
theorem g_650 : Cond.code yX3_put cX3_put 4 none ∈ gA := gA_of (tb_3 134 rfl) rfl
set_option maxRecDepth 8000 in
theorem g_651 : Cond.methodLink RX3 76 yX3_drop ∈ gA := gA_of (tb_3 135 rfl) rfl
set_option maxRecDepth 8000 in
theorem t_652 : Cond.privateMethod yX3_drop ∈ lw_tbl := tb_3 136 rfl
set_option maxRecDepth 8000 in
theorem g_653 : Cond.instanceMethod yX3_drop ∈ gA := gA_of (tb_3 137 rfl) rfl
set_option maxRecDepth 8000 in
theorem g_654 : Cond.code yX3_drop cX3_drop 2 none ∈ gA := gA_of (tb_3 138 rfl) rfl
set_option maxRecDepth 8000 in
theorem g_655 : Cond.methodLink RX3 69 yX3_fall ∈ gA := gA_of (tb_3 139 rfl) rfl
set_option maxRecDepth 8000 in
theorem t_656 : Cond.privateMethod yX3_fall ∈ lw_tbl := tb_3 140 rfl
set_option maxRecDepth 8000 in
theorem g_657 : Cond.instanceMethod yX3_fall ∈ gA := gA_of (tb_3 141 rfl) rfl
set_option maxRecDepth 8000 in
theorem g_658 : Cond.code yX3_fall cX3_fall 3 none ∈ gA := gA_of (tb_3 142 rfl) rfl
set_option maxRecDepth 8000 in
theorem g_659 : Cond.methodLink RX3 66 yX3_st ∈ gA := gA_of (tb_3 143 rfl) rfl
set_option maxRecDepth 8000 in
theorem t_660 : Cond.privateMethod yX3_st ∈ lw_tbl := tb_3 144 rfl
set_option maxRecDepth 8000 in
theorem g_661 : Cond.instanceMethod yX3_st ∈ gA := gA_of (tb_3 145 rfl) rfl
set_option maxRecDepth 8000 in
theorem g_662 : Cond.code yX3_st cX3_st 3 (some .int) ∈ gA := gA_of (tb_3 146 rfl) rfl
set_option maxRecDepth 8000 in
theorem g_663 : Cond.methodLink RL 85 yX3_hang ∈ gA := gA_of (tb_3 147 rfl) rfl
set_option maxRecDepth 8000 in
theorem g_664 : Cond.instanceMethod yX3_hang ∈ gA := gA_of (tb_3 148 rfl) rfl
set_option maxRecDepth 8000 in
theorem g_665 : Cond.selects RX3 yX3_hang yX3_hang ∈ gA := gA_of (tb_3 149 rfl) rfl
set_option maxRecDepth 8000 in
theorem g_666 : Cond.code yX3_hang cX3_hang 5 (some .int) ∈ gA := gA_of (tb_3 150 rfl) rfl
set_option maxRecDepth 8000 in
theorem g_667 : Cond.methodLink RX3 96 yX3_isStone ∈ gA := gA_of (tb_3 151 rfl) rfl
set_option maxRecDepth 8000 in
theorem t_668 : Cond.privateMethod yX3_isStone ∈ lw_tbl := tb_3 152 rfl
set_option maxRecDepth 8000 in
theorem g_669 : Cond.instanceMethod yX3_isStone ∈ gA := gA_of (tb_3 153 rfl) rfl
set_option maxRecDepth 8000 in
theorem g_670 : Cond.code yX3_isStone cX3_isStone 2 (some .boolean) ∈ gA := gA_of (tb_3 154 rfl) rfl
set_option maxRecDepth 8000 in
theorem g_671 : Cond.methodLink RL 89 yX3_prop ∈ gA := gA_of (tb_3 155 rfl) rfl
set_option maxRecDepth 8000 in
theorem g_672 : Cond.instanceMethod yX3_prop ∈ gA := gA_of (tb_3 156 rfl) rfl
set_option maxRecDepth 8000 in
theorem g_673 : Cond.selects RX3 yX3_prop yX3_prop ∈ gA := gA_of (tb_3 157 rfl) rfl
set_option maxRecDepth 8000 in
theorem g_674 : Cond.code yX3_prop cX3_prop 4 (some .int) ∈ gA := gA_of (tb_3 158 rfl) rfl
set_option maxRecDepth 8000 in
theorem g_675 : Cond.methodLink RX3 99 yX3_hanging ∈ gA := gA_of (tb_3 159 rfl) rfl
set_option maxRecDepth 8000 in
theorem t_676 : Cond.privateMethod yX3_hanging ∈ lw_tbl := tb_3 160 rfl
set_option maxRecDepth 8000 in
theorem g_677 : Cond.instanceMethod yX3_hanging ∈ gA := gA_of (tb_3 161 rfl) rfl
set_option maxRecDepth 8000 in
theorem g_678 : Cond.code yX3_hanging cX3_hanging 3 (some .int) ∈ gA := gA_of (tb_3 162 rfl) rfl
set_option maxRecDepth 8000 in
theorem g_679 : Cond.methodLink RL 92 yX3_renew ∈ gA := gA_of (tb_3 163 rfl) rfl
set_option maxRecDepth 8000 in
theorem g_680 : Cond.instanceMethod yX3_renew ∈ gA := gA_of (tb_3 164 rfl) rfl
set_option maxRecDepth 8000 in
theorem g_681 : Cond.selects RX3 yX3_renew yX3_renew ∈ gA := gA_of (tb_3 165 rfl) rfl
set_option maxRecDepth 8000 in
theorem g_682 : Cond.code yX3_renew cX3_renew 4 (some .int) ∈ gA := gA_of (tb_3 166 rfl) rfl
set_option maxRecDepth 8000 in
theorem g_683 : Cond.methodLink RL 95 yX3_stair ∈ gA := gA_of (tb_3 167 rfl) rfl
set_option maxRecDepth 8000 in
theorem g_684 : Cond.instanceMethod yX3_stair ∈ gA := gA_of (tb_3 168 rfl) rfl
set_option maxRecDepth 8000 in
theorem g_685 : Cond.selects RX3 yX3_stair yX3_stair ∈ gA := gA_of (tb_3 169 rfl) rfl
set_option maxRecDepth 8000 in
theorem g_686 : Cond.code yX3_stair cX3_stair 4 (some .int) ∈ gA := gA_of (tb_3 170 rfl) rfl
set_option maxRecDepth 8000 in
theorem g_687 : Cond.methodLink RL 98 yX3_swap ∈ gA := gA_of (tb_3 171 rfl) rfl
set_option maxRecDepth 8000 in
theorem g_688 : Cond.instanceMethod yX3_swap ∈ gA := gA_of (tb_3 172 rfl) rfl
set_option maxRecDepth 8000 in
theorem g_689 : Cond.selects RX3 yX3_swap yX3_swap ∈ gA := gA_of (tb_3 173 rfl) rfl
set_option maxRecDepth 8000 in
theorem g_690 : Cond.code yX3_swap cX3_swap 4 (some .boolean) ∈ gA := gA_of (tb_3 174 rfl) rfl
set_option maxRecDepth 8000 in
theorem g_691 : Cond.methodLink RX3 103 yX3_isStair ∈ gA := gA_of (tb_3 175 rfl) rfl
set_option maxRecDepth 8000 in
theorem t_692 : Cond.privateMethod yX3_isStair ∈ lw_tbl := tb_3 176 rfl
set_option maxRecDepth 8000 in
theorem g_693 : Cond.instanceMethod yX3_isStair ∈ gA := gA_of (tb_3 177 rfl) rfl
set_option maxRecDepth 8000 in
theorem g_694 : Cond.code yX3_isStair cX3_isStair 2 (some .boolean) ∈ gA := gA_of (tb_3 178 rfl) rfl
set_option maxRecDepth 8000 in
theorem g_695 : Cond.methodLink RL 101 yX3_joins ∈ gA := gA_of (tb_3 179 rfl) rfl
set_option maxRecDepth 8000 in
theorem g_696 : Cond.instanceMethod yX3_joins ∈ gA := gA_of (tb_3 180 rfl) rfl
set_option maxRecDepth 8000 in
theorem g_697 : Cond.selects RX3 yX3_joins yX3_joins ∈ gA := gA_of (tb_3 181 rfl) rfl
set_option maxRecDepth 8000 in
theorem g_698 : Cond.code yX3_joins cX3_joins 3 (some .int) ∈ gA := gA_of (tb_3 182 rfl) rfl
set_option maxRecDepth 8000 in
theorem g_699 : Cond.methodLink RL 104 yX3_steps ∈ gA := gA_of (tb_3 183 rfl) rfl
set_option maxRecDepth 8000 in
theorem g_700 : Cond.instanceMethod yX3_steps ∈ gA := gA_of (tb_3 184 rfl) rfl
set_option maxRecDepth 8000 in
theorem g_701 : Cond.selects RX3 yX3_steps yX3_steps ∈ gA := gA_of (tb_3 185 rfl) rfl
set_option maxRecDepth 8000 in
theorem g_702 : Cond.code yX3_steps cX3_steps 5 (some .int) ∈ gA := gA_of (tb_3 186 rfl) rfl
set_option maxRecDepth 8000 in
theorem g_703 : Cond.methodLink RL 107 yX3_stone_ ∈ gA := gA_of (tb_3 187 rfl) rfl
set_option maxRecDepth 8000 in
theorem g_704 : Cond.instanceMethod yX3_stone_ ∈ gA := gA_of (tb_3 188 rfl) rfl
set_option maxRecDepth 8000 in
theorem g_705 : Cond.selects RX3 yX3_stone_ yX3_stone_ ∈ gA := gA_of (tb_3 189 rfl) rfl
set_option maxRecDepth 8000 in
theorem g_706 : Cond.code yX3_stone_ cX3_stone_ 3 (some .int) ∈ gA := gA_of (tb_3 190 rfl) rfl
set_option maxRecDepth 8000 in
theorem g_707 : Cond.methodLink RX3 109 yX3_stoneTold ∈ gA := gA_of (tb_3 191 rfl) rfl
set_option maxRecDepth 8000 in
theorem t_708 : Cond.privateMethod yX3_stoneTold ∈ lw_tbl := tb_3 192 rfl
set_option maxRecDepth 8000 in
theorem g_709 : Cond.instanceMethod yX3_stoneTold ∈ gA := gA_of (tb_3 193 rfl) rfl
set_option maxRecDepth 8000 in
theorem g_710 : Cond.code yX3_stoneTold cX3_stoneTold 3 (some .int) ∈ gA := gA_of (tb_3 194 rfl) rfl
set_option maxRecDepth 8000 in
theorem g_711 : Cond.methodLink RX3 106 yX3_holdsFrom ∈ gA := gA_of (tb_3 195 rfl) rfl
set_option maxRecDepth 8000 in
theorem t_712 : Cond.privateMethod yX3_holdsFrom ∈ lw_tbl := tb_3 196 rfl
set_option maxRecDepth 8000 in
theorem g_713 : Cond.instanceMethod yX3_holdsFrom ∈ gA := gA_of (tb_3 197 rfl) rfl
set_option maxRecDepth 8000 in
theorem g_714 : Cond.code yX3_holdsFrom cX3_holdsFrom 4 (some .int) ∈ gA := gA_of (tb_3 198 rfl) rfl
set_option maxRecDepth 8000 in
theorem g_715 : Cond.methodLink RL 111 yX3_first ∈ gA := gA_of (tb_3 199 rfl) rfl
set_option maxRecDepth 8000 in
theorem g_716 : Cond.instanceMethod yX3_first ∈ gA := gA_of (tb_3 200 rfl) rfl
set_option maxRecDepth 8000 in
theorem g_717 : Cond.selects RX3 yX3_first yX3_first ∈ gA := gA_of (tb_3 201 rfl) rfl
set_option maxRecDepth 8000 in
theorem g_718 : Cond.code yX3_first cX3_first 3 (some .int) ∈ gA := gA_of (tb_3 202 rfl) rfl
set_option maxRecDepth 8000 in
theorem g_719 : Cond.methodLink RL 114 yX3_count ∈ gA := gA_of (tb_3 203 rfl) rfl
set_option maxRecDepth 8000 in
theorem g_720 : Cond.instanceMethod yX3_count ∈ gA := gA_of (tb_3 204 rfl) rfl
set_option maxRecDepth 8000 in
theorem g_721 : Cond.selects RX3 yX3_count yX3_count ∈ gA := gA_of (tb_3 205 rfl) rfl
set_option maxRecDepth 8000 in
theorem g_722 : Cond.code yX3_count cX3_count 2 (some .int) ∈ gA := gA_of (tb_3 206 rfl) rfl
set_option maxRecDepth 8000 in
theorem g_723 : Cond.methodLink RX3 112 yX3_counted ∈ gA := gA_of (tb_3 207 rfl) rfl
set_option maxRecDepth 8000 in
theorem t_724 : Cond.privateMethod yX3_counted ∈ lw_tbl := tb_3 208 rfl
set_option maxRecDepth 8000 in
theorem g_725 : Cond.instanceMethod yX3_counted ∈ gA := gA_of (tb_3 209 rfl) rfl
set_option maxRecDepth 8000 in
theorem g_726 : Cond.code yX3_counted cX3_counted 5 (some .int) ∈ gA := gA_of (tb_3 210 rfl) rfl
set_option maxRecDepth 8000 in
theorem g_727 : Cond.methodLink RL 117 yX3_pass ∈ gA := gA_of (tb_3 211 rfl) rfl
set_option maxRecDepth 8000 in
theorem g_728 : Cond.instanceMethod yX3_pass ∈ gA := gA_of (tb_3 212 rfl) rfl
set_option maxRecDepth 8000 in
theorem g_729 : Cond.selects RX3 yX3_pass yX3_pass ∈ gA := gA_of (tb_3 213 rfl) rfl
set_option maxRecDepth 8000 in
theorem g_730 : Cond.code yX3_pass cX3_pass 3 (some .int) ∈ gA := gA_of (tb_3 214 rfl) rfl
set_option maxRecDepth 8000 in
theorem g_731 : Cond.methodLink RX3 118 yX3_daysOn ∈ gA := gA_of (tb_3 215 rfl) rfl
set_option maxRecDepth 8000 in
theorem t_732 : Cond.privateMethod yX3_daysOn ∈ lw_tbl := tb_3 216 rfl
set_option maxRecDepth 8000 in
theorem g_733 : Cond.instanceMethod yX3_daysOn ∈ gA := gA_of (tb_3 217 rfl) rfl
set_option maxRecDepth 8000 in
theorem g_734 : Cond.code yX3_daysOn cX3_daysOn 3 none ∈ gA := gA_of (tb_3 218 rfl) rfl
set_option maxRecDepth 8000 in
theorem g_735 : Cond.methodLink RX3 115 yX3_dayOn ∈ gA := gA_of (tb_3 219 rfl) rfl
set_option maxRecDepth 8000 in
theorem t_736 : Cond.privateMethod yX3_dayOn ∈ lw_tbl := tb_3 220 rfl
set_option maxRecDepth 8000 in
theorem g_737 : Cond.instanceMethod yX3_dayOn ∈ gA := gA_of (tb_3 221 rfl) rfl
set_option maxRecDepth 8000 in
theorem g_738 : Cond.code yX3_dayOn cX3_dayOn 2 none ∈ gA := gA_of (tb_3 222 rfl) rfl
set_option maxRecDepth 8000 in
theorem g_739 : Cond.methodLink RL 120 yX3_without ∈ gA := gA_of (tb_3 223 rfl) rfl
set_option maxRecDepth 8000 in
theorem g_740 : Cond.instanceMethod yX3_without ∈ gA := gA_of (tb_3 224 rfl) rfl
set_option maxRecDepth 8000 in
theorem g_741 : Cond.selects RX3 yX3_without yX3_without ∈ gA := gA_of (tb_3 225 rfl) rfl
set_option maxRecDepth 8000 in
theorem g_742 : Cond.code yX3_without cX3_without 5 (some .int) ∈ gA := gA_of (tb_3 226 rfl) rfl
set_option maxRecDepth 8000 in
theorem g_743 : Cond.methodLink RX3 126 yX3_kept ∈ gA := gA_of (tb_3 227 rfl) rfl
set_option maxRecDepth 8000 in
theorem t_744 : Cond.privateMethod yX3_kept ∈ lw_tbl := tb_3 228 rfl
set_option maxRecDepth 8000 in
theorem g_745 : Cond.instanceMethod yX3_kept ∈ gA := gA_of (tb_3 229 rfl) rfl
set_option maxRecDepth 8000 in
theorem g_746 : Cond.code yX3_kept cX3_kept 1 (Option.some (.array (.array .int))) ∈ gA := gA_of (tb_3 230 rfl) rfl
set_option maxRecDepth 8000 in
theorem g_747 : Cond.classLink RX3 121 "[I" ∈ gA := gA_of (tb_3 231 rfl) rfl
set_option maxRecDepth 8000 in
theorem t_748 : Cond.arrayOver (.array .int) ∈ lw_tbl := tb_3 232 rfl
set_option maxRecDepth 8000 in
theorem g_749 : Cond.methodLink RX3 122 ⟨"[I", "clone", "()Ljava/lang/Object;"⟩ ∈ gA := gA_of (tb_3 233 rfl) rfl
set_option maxRecDepth 8000 in
theorem g_750 : Cond.sameMethod "[I" "java/lang/Object" "clone" "()Ljava/lang/Object;" ∈ gA := gA_of (tb_3 234 rfl) rfl
set_option maxRecDepth 8000 in
theorem g_751 : Cond.native ⟨"java/lang/Object", "clone", "()Ljava/lang/Object;"⟩ ∈ gA := gA_of (tb_3 235 rfl) rfl
set_option maxRecDepth 8000 in
theorem g_752 : Cond.instanceMethod ⟨"java/lang/Object", "clone", "()Ljava/lang/Object;"⟩ ∈ gA := gA_of (tb_3 236 rfl) rfl
set_option maxRecDepth 8000 in
theorem g_753 : Cond.selects "[I" ⟨"[I", "clone", "()Ljava/lang/Object;"⟩ ⟨"java/lang/Object", "clone", "()Ljava/lang/Object;"⟩ ∈ gA := gA_of (tb_3 237 rfl) rfl
set_option maxRecDepth 8000 in
theorem t_754 : Cond.castable "[I" "java/lang/Cloneable" ∈ lw_tbl := tb_3 238 rfl
set_option maxRecDepth 8000 in
theorem g_755 : Cond.methodLink RX3 130 yX3_bringBack ∈ gA := gA_of (tb_3 239 rfl) rfl
set_option maxRecDepth 8000 in
theorem t_756 : Cond.privateMethod yX3_bringBack ∈ lw_tbl := tb_4 0 rfl
set_option maxRecDepth 8000 in
theorem g_757 : Cond.instanceMethod yX3_bringBack ∈ gA := gA_of (tb_4 1 rfl) rfl
set_option maxRecDepth 8000 in
theorem g_758 : Cond.code yX3_bringBack cX3_bringBack 2 none ∈ gA := gA_of (tb_4 2 rfl) rfl
set_option maxRecDepth 8000 in
theorem g_759 : Cond.methodLink RL 123 yX3_lasts ∈ gA := gA_of (tb_4 3 rfl) rfl
set_option maxRecDepth 8000 in
theorem g_760 : Cond.instanceMethod yX3_lasts ∈ gA := gA_of (tb_4 4 rfl) rfl
set_option maxRecDepth 8000 in
theorem g_761 : Cond.selects RX3 yX3_lasts yX3_lasts ∈ gA := gA_of (tb_4 5 rfl) rfl
set_option maxRecDepth 8000 in
theorem g_762 : Cond.code yX3_lasts cX3_lasts 4 (some .int) ∈ gA := gA_of (tb_4 6 rfl) rfl
set_option maxRecDepth 8000 in
theorem g_763 : Cond.methodLink RL 126 yX3_foresee ∈ gA := gA_of (tb_4 7 rfl) rfl
set_option maxRecDepth 8000 in
theorem g_764 : Cond.instanceMethod yX3_foresee ∈ gA := gA_of (tb_4 8 rfl) rfl
set_option maxRecDepth 8000 in
theorem g_765 : Cond.selects RX3 yX3_foresee yX3_foresee ∈ gA := gA_of (tb_4 9 rfl) rfl
set_option maxRecDepth 8000 in
theorem g_766 : Cond.code yX3_foresee cX3_foresee 5 (some .int) ∈ gA := gA_of (tb_4 10 rfl) rfl
set_option maxRecDepth 8000 in
theorem g_767 : Cond.methodLink RL 129 yX3_advise ∈ gA := gA_of (tb_4 11 rfl) rfl
set_option maxRecDepth 8000 in
theorem g_768 : Cond.instanceMethod yX3_advise ∈ gA := gA_of (tb_4 12 rfl) rfl
set_option maxRecDepth 8000 in
theorem g_769 : Cond.selects RX3 yX3_advise yX3_advise ∈ gA := gA_of (tb_4 13 rfl) rfl
set_option maxRecDepth 8000 in
theorem g_770 : Cond.code yX3_advise cX3_advise 8 (some .int) ∈ gA := gA_of (tb_4 14 rfl) rfl
set_option maxRecDepth 8000 in
theorem g_771 : Cond.methodLink RX3 134 ⟨"java/lang/Math", "min", "(II)I"⟩ ∈ gA := gA_of (tb_4 15 rfl) rfl
set_option maxRecDepth 8000 in
theorem g_772 : Cond.methodLink RL 134 yX3_mean ∈ gA := gA_of (tb_4 16 rfl) rfl
set_option maxRecDepth 8000 in
theorem g_773 : Cond.instanceMethod yX3_mean ∈ gA := gA_of (tb_4 17 rfl) rfl
set_option maxRecDepth 8000 in
theorem g_774 : Cond.selects RX3 yX3_mean yX3_mean ∈ gA := gA_of (tb_4 18 rfl) rfl
set_option maxRecDepth 8000 in
theorem g_775 : Cond.code yX3_mean cX3_mean 3 (some .double) ∈ gA := gA_of (tb_4 19 rfl) rfl
set_option maxRecDepth 8000 in
theorem g_776 : Cond.methodLink RL 139 yX3_digest ∈ gA := gA_of (tb_4 20 rfl) rfl
set_option maxRecDepth 8000 in
theorem g_777 : Cond.instanceMethod yX3_digest ∈ gA := gA_of (tb_4 21 rfl) rfl
set_option maxRecDepth 8000 in
theorem g_778 : Cond.selects RX3 yX3_digest yX3_digest ∈ gA := gA_of (tb_4 22 rfl) rfl
set_option maxRecDepth 8000 in
theorem g_779 : Cond.code yX3_digest cX3_digest 5 (some .long) ∈ gA := gA_of (tb_4 23 rfl) rfl
set_option maxRecDepth 8000 in
theorem g_780 : Cond.constantLong RX3 137 (971 : Int64) ∈ gA := gA_of (tb_4 24 rfl) rfl
set_option maxRecDepth 8000 in
theorem g_781 : Cond.constantLong RX3 139 (31 : Int64) ∈ gA := gA_of (tb_4 25 rfl) rfl
set_option maxRecDepth 8000 in
theorem g_782 : Cond.arrayClass .long ∈ gA := gA_of (tb_4 26 rfl) rfl
set_option maxRecDepth 8000 in
theorem g_783 : Cond.sameMethod "java/lang/Throwable" "java/lang/Throwable" "fillInStackTrace" "(I)Ljava/lang/Throwable;" ∈ gA := gA_of (tb_4 27 rfl) rfl
