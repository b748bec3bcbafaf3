/-! every word of the law, by its place; fields and methods that instructions name -/
theorem qw_0 : Cond.classLink RL 8 RX11 ∈ wsL_law := wlm_1 _ (List.mem_of_getElem? (i := 0) rfl)
theorem qw_1 : Cond.instantiable RX11 16 ∈ wsL_law := wlm_1 _ (List.mem_of_getElem? (i := 1) rfl)
theorem qw_2 : Cond.initialized RX11 ∈ wsL_law := wlm_1 _ (List.mem_of_getElem? (i := 2) rfl)
theorem qw_3 : Cond.classLink RL 16 RX12 ∈ wsL_law := wlm_1 _ (List.mem_of_getElem? (i := 3) rfl)
theorem qw_4 : Cond.instantiable RX12 58 ∈ wsL_law := wlm_1 _ (List.mem_of_getElem? (i := 4) rfl)
theorem qw_5 : Cond.initialized RX12 ∈ wsL_law := wlm_1 _ (List.mem_of_getElem? (i := 5) rfl)
theorem qw_6 : Cond.arrayClass .long ∈ wsL_law := wlm_1 _ (List.mem_of_getElem? (i := 6) rfl)
theorem qw_7 : Cond.constantLong RL 92 (4294967295) ∈ wsL_law := wlm_1 _ (List.mem_of_getElem? (i := 7) rfl)
theorem qw_8 : Cond.methodLink RL 15 yX11_init ∈ wsL_law := wlm_1 _ (List.mem_of_getElem? (i := 8) rfl)
theorem qw_9 : Cond.instanceMethod yX11_init ∈ wsL_law := wlm_1 _ (List.mem_of_getElem? (i := 9) rfl)
theorem qw_10 : Cond.code yX11_init cX11_init 1 none ∈ wsL_law := wlm_1 _ (List.mem_of_getElem? (i := 10) rfl)
theorem qw_11 : Cond.methodLink RX11 1 objectInit ∈ wsL_law := wlm_1 _ (List.mem_of_getElem? (i := 11) rfl)
theorem qw_12 : Cond.instanceMethod objectInit ∈ wsL_law := wlm_1 _ (List.mem_of_getElem? (i := 12) rfl)
theorem qw_13 : Cond.code objectInit ⟨#[0xb1]⟩ 1 none ∈ wsL_law := wlm_1 _ (List.mem_of_getElem? (i := 13) rfl)
theorem qw_14 : Cond.classLink RX11 7 RX9 ∈ wsL_law := wlm_1 _ (List.mem_of_getElem? (i := 14) rfl)
theorem qw_15 : Cond.instantiable RX9 3 ∈ wsL_law := wlm_1 _ (List.mem_of_getElem? (i := 15) rfl)
theorem qw_16 : Cond.initialized RX9 ∈ wsL_law := wlm_1 _ (List.mem_of_getElem? (i := 16) rfl)
theorem qw_17 : Cond.fieldLink RX11 10 "RoadWheels" "tape" "LRoadWheels$Tape;" ∈ wsL_law := wlm_1 _ (List.mem_of_getElem? (i := 17) rfl)
theorem qw_18 : Cond.classLink RX11 16 RX0 ∈ wsL_law := wlm_1 _ (List.mem_of_getElem? (i := 18) rfl)
theorem qw_19 : Cond.instantiable RX0 13 ∈ wsL_law := wlm_1 _ (List.mem_of_getElem? (i := 19) rfl)
theorem qw_20 : Cond.initialized RX0 ∈ wsL_law := wlm_1 _ (List.mem_of_getElem? (i := 20) rfl)
theorem qw_21 : Cond.fieldLink RX11 19 "RoadWheels" "county" "LRoadWheels$County;" ∈ wsL_law := wlm_1 _ (List.mem_of_getElem? (i := 21) rfl)
theorem qw_22 : Cond.fieldLink RX11 23 "RoadWheels" "draft" "LRoadWheels$County;" ∈ wsL_law := wlm_1 _ (List.mem_of_getElem? (i := 22) rfl)
theorem qw_23 : Cond.classLink RX11 26 RX3 ∈ wsL_law := wlm_1 _ (List.mem_of_getElem? (i := 23) rfl)
theorem qw_24 : Cond.instantiable RX3 3 ∈ wsL_law := wlm_2 _ (List.mem_of_getElem? (i := 0) rfl)
theorem qw_25 : Cond.initialized RX3 ∈ wsL_law := wlm_2 _ (List.mem_of_getElem? (i := 1) rfl)
theorem qw_26 : Cond.fieldLink RX11 31 "RoadWheels" "lawReader" "LRoadWheels$LawReader;" ∈ wsL_law := wlm_2 _ (List.mem_of_getElem? (i := 2) rfl)
theorem qw_27 : Cond.classLink RX11 35 RX4 ∈ wsL_law := wlm_2 _ (List.mem_of_getElem? (i := 3) rfl)
theorem qw_28 : Cond.instantiable RX4 6 ∈ wsL_law := wlm_2 _ (List.mem_of_getElem? (i := 4) rfl)
theorem qw_29 : Cond.initialized RX4 ∈ wsL_law := wlm_2 _ (List.mem_of_getElem? (i := 5) rfl)
theorem qw_30 : Cond.fieldLink RX11 38 "RoadWheels" "laws" "LRoadWheels$Laws;" ∈ wsL_law := wlm_2 _ (List.mem_of_getElem? (i := 6) rfl)
theorem qw_31 : Cond.classLink RX11 42 RX10 ∈ wsL_law := wlm_2 _ (List.mem_of_getElem? (i := 7) rfl)
theorem qw_32 : Cond.instantiable RX10 5 ∈ wsL_law := wlm_2 _ (List.mem_of_getElem? (i := 8) rfl)
theorem qw_33 : Cond.initialized RX10 ∈ wsL_law := wlm_2 _ (List.mem_of_getElem? (i := 9) rfl)
theorem qw_34 : Cond.fieldLink RX11 45 "RoadWheels" "ways" "LRoadWheels$Ways;" ∈ wsL_law := wlm_2 _ (List.mem_of_getElem? (i := 10) rfl)
theorem qw_35 : Cond.classLink RX11 49 RX8 ∈ wsL_law := wlm_2 _ (List.mem_of_getElem? (i := 11) rfl)
theorem qw_36 : Cond.instantiable RX8 8 ∈ wsL_law := wlm_2 _ (List.mem_of_getElem? (i := 12) rfl)
theorem qw_37 : Cond.initialized RX8 ∈ wsL_law := wlm_2 _ (List.mem_of_getElem? (i := 13) rfl)
theorem qw_38 : Cond.fieldLink RX11 52 "RoadWheels" "now" "LRoadWheels$State;" ∈ wsL_law := wlm_2 _ (List.mem_of_getElem? (i := 14) rfl)
theorem qw_39 : Cond.fieldLink RX11 56 "RoadWheels" "trial" "LRoadWheels$State;" ∈ wsL_law := wlm_2 _ (List.mem_of_getElem? (i := 15) rfl)
theorem qw_40 : Cond.classLink RX11 59 RX1 ∈ wsL_law := wlm_2 _ (List.mem_of_getElem? (i := 16) rfl)
theorem qw_41 : Cond.instantiable RX1 5 ∈ wsL_law := wlm_2 _ (List.mem_of_getElem? (i := 17) rfl)
theorem qw_42 : Cond.initialized RX1 ∈ wsL_law := wlm_2 _ (List.mem_of_getElem? (i := 18) rfl)
theorem qw_43 : Cond.fieldLink RX11 64 "RoadWheels" "calendar" "LRoadWheels$Days;" ∈ wsL_law := wlm_2 _ (List.mem_of_getElem? (i := 19) rfl)
theorem qw_44 : Cond.classLink RX11 68 RX6 ∈ wsL_law := wlm_2 _ (List.mem_of_getElem? (i := 20) rfl)
theorem qw_45 : Cond.instantiable RX6 7 ∈ wsL_law := wlm_2 _ (List.mem_of_getElem? (i := 21) rfl)
theorem qw_46 : Cond.initialized RX6 ∈ wsL_law := wlm_2 _ (List.mem_of_getElem? (i := 22) rfl)
theorem qw_47 : Cond.fieldLink RX11 71 "RoadWheels" "past" "LRoadWheels$Past;" ∈ wsL_law := wlm_2 _ (List.mem_of_getElem? (i := 23) rfl)
theorem qw_48 : Cond.classLink RX11 75 RX5 ∈ wsL_law := wlm_3 _ (List.mem_of_getElem? (i := 0) rfl)
theorem qw_49 : Cond.instantiable RX5 6 ∈ wsL_law := wlm_3 _ (List.mem_of_getElem? (i := 1) rfl)
theorem qw_50 : Cond.initialized RX5 ∈ wsL_law := wlm_3 _ (List.mem_of_getElem? (i := 2) rfl)
theorem qw_51 : Cond.fieldLink RX11 80 "RoadWheels" "net" "LRoadWheels$Net;" ∈ wsL_law := wlm_3 _ (List.mem_of_getElem? (i := 3) rfl)
theorem qw_52 : Cond.classLink RX11 84 RX7 ∈ wsL_law := wlm_3 _ (List.mem_of_getElem? (i := 4) rfl)
theorem qw_53 : Cond.instantiable RX7 10 ∈ wsL_law := wlm_3 _ (List.mem_of_getElem? (i := 5) rfl)
theorem qw_54 : Cond.initialized RX7 ∈ wsL_law := wlm_3 _ (List.mem_of_getElem? (i := 6) rfl)
theorem qw_55 : Cond.fieldLink RX11 89 "RoadWheels" "sightings" "LRoadWheels$Sightings;" ∈ wsL_law := wlm_3 _ (List.mem_of_getElem? (i := 7) rfl)
theorem qw_56 : Cond.classLink RX11 93 RX2 ∈ wsL_law := wlm_3 _ (List.mem_of_getElem? (i := 8) rfl)
theorem qw_57 : Cond.instantiable RX2 7 ∈ wsL_law := wlm_3 _ (List.mem_of_getElem? (i := 9) rfl)
theorem qw_58 : Cond.initialized RX2 ∈ wsL_law := wlm_3 _ (List.mem_of_getElem? (i := 10) rfl)
theorem qw_59 : Cond.fieldLink RX11 98 "RoadWheels" "errands" "LRoadWheels$Errands;" ∈ wsL_law := wlm_3 _ (List.mem_of_getElem? (i := 11) rfl)
theorem qw_60 : Cond.arrayClass .int ∈ wsL_law := wlm_3 _ (List.mem_of_getElem? (i := 12) rfl)
theorem qw_61 : Cond.fieldLink RX11 102 "RoadWheels" "refusals" "[I" ∈ wsL_law := wlm_3 _ (List.mem_of_getElem? (i := 13) rfl)
theorem qw_62 : Cond.fieldLink RX11 106 "RoadWheels" "floodBelow" "I" ∈ wsL_law := wlm_3 _ (List.mem_of_getElem? (i := 14) rfl)
theorem qw_63 : Cond.instanceMethod yX9_init ∈ wsL_law := wlm_3 _ (List.mem_of_getElem? (i := 15) rfl)
theorem qw_64 : Cond.code yX9_init cX9_init 1 none ∈ wsL_law := wlm_3 _ (List.mem_of_getElem? (i := 16) rfl)
theorem qw_65 : Cond.methodLink RX9 3 objectInit ∈ wsL_law := wlm_3 _ (List.mem_of_getElem? (i := 17) rfl)
theorem qw_66 : Cond.fieldLink RX9 9 "RoadWheels$Tape" "bytes" "[I" ∈ wsL_law := wlm_3 _ (List.mem_of_getElem? (i := 18) rfl)
theorem qw_67 : Cond.instanceMethod yX0_init ∈ wsL_law := wlm_3 _ (List.mem_of_getElem? (i := 19) rfl)
theorem qw_68 : Cond.code yX0_init cX0_init 1 none ∈ wsL_law := wlm_3 _ (List.mem_of_getElem? (i := 20) rfl)
theorem qw_69 : Cond.methodLink RX0 3 objectInit ∈ wsL_law := wlm_3 _ (List.mem_of_getElem? (i := 21) rfl)
theorem qw_70 : Cond.fieldLink RX0 9 "RoadWheels$County" "customers" "[I" ∈ wsL_law := wlm_3 _ (List.mem_of_getElem? (i := 22) rfl)
theorem qw_71 : Cond.fieldLink RX0 15 "RoadWheels$County" "oneEnd" "[I" ∈ wsL_law := wlm_3 _ (List.mem_of_getElem? (i := 23) rfl)
theorem qw_72 : Cond.fieldLink RX0 18 "RoadWheels$County" "otherEnd" "[I" ∈ wsL_law := wlm_4 _ (List.mem_of_getElem? (i := 0) rfl)
theorem qw_73 : Cond.fieldLink RX0 21 "RoadWheels$County" "length" "[I" ∈ wsL_law := wlm_4 _ (List.mem_of_getElem? (i := 1) rfl)
theorem qw_74 : Cond.fieldLink RX0 24 "RoadWheels$County" "rough" "[I" ∈ wsL_law := wlm_4 _ (List.mem_of_getElem? (i := 2) rfl)
theorem qw_75 : Cond.fieldLink RX0 27 "RoadWheels$County" "start" "[I" ∈ wsL_law := wlm_4 _ (List.mem_of_getElem? (i := 3) rfl)
theorem qw_76 : Cond.fieldLink RX0 37 "RoadWheels$County" "items" "[I" ∈ wsL_law := wlm_4 _ (List.mem_of_getElem? (i := 4) rfl)
theorem qw_77 : Cond.methodLink RX0 32 yJ0_length_8abf5 ∈ wsL_law := wlm_4 _ (List.mem_of_getElem? (i := 5) rfl)
theorem qw_78 : Cond.instanceMethod yJ0_length_8abf5 ∈ wsL_law := wlm_4 _ (List.mem_of_getElem? (i := 6) rfl)
theorem qw_79 : Cond.selects RJ0 yJ0_length_8abf5 yJ0_length_8abf5 ∈ wsL_law := wlm_4 _ (List.mem_of_getElem? (i := 7) rfl)
theorem qw_80 : Cond.initialized RJ0 ∈ wsL_law := wlm_4 _ (List.mem_of_getElem? (i := 8) rfl)
theorem qw_81 : Cond.code yJ0_length_8abf5 cJ0_length_8abf5 1 (some .int) ∈ wsL_law := wlm_4 _ (List.mem_of_getElem? (i := 9) rfl)
theorem qw_82 : Cond.fieldLink RJ0 9 "java/lang/String" "value" "[B" ∈ wsL_law := wlm_4 _ (List.mem_of_getElem? (i := 10) rfl)
theorem qw_83 : Cond.methodLink RJ0 335 yJ0_coder_7d493 ∈ wsL_law := wlm_4 _ (List.mem_of_getElem? (i := 11) rfl)
theorem qw_84 : Cond.instanceMethod yJ0_coder_7d493 ∈ wsL_law := wlm_4 _ (List.mem_of_getElem? (i := 12) rfl)
theorem qw_85 : Cond.selects RJ0 yJ0_coder_7d493 yJ0_coder_7d493 ∈ wsL_law := wlm_4 _ (List.mem_of_getElem? (i := 13) rfl)
theorem qw_86 : Cond.code yJ0_coder_7d493 cJ0_coder_7d493 1 (some .byte) ∈ wsL_law := wlm_4 _ (List.mem_of_getElem? (i := 14) rfl)
theorem qw_87 : Cond.fieldLink RJ0 38 "java/lang/String" "COMPACT_STRINGS" "Z" ∈ wsL_law := wlm_4 _ (List.mem_of_getElem? (i := 15) rfl)
theorem qw_88 : Cond.fieldLink RJ0 15 "java/lang/String" "coder" "B" ∈ wsL_law := wlm_4 _ (List.mem_of_getElem? (i := 16) rfl)
theorem qw_89 : Cond.methodLink RX11 28 yX3_init ∈ wsL_law := wlm_4 _ (List.mem_of_getElem? (i := 17) rfl)
theorem qw_90 : Cond.instanceMethod yX3_init ∈ wsL_law := wlm_4 _ (List.mem_of_getElem? (i := 18) rfl)
theorem qw_91 : Cond.code yX3_init cX3_init 2 none ∈ wsL_law := wlm_4 _ (List.mem_of_getElem? (i := 19) rfl)
theorem qw_92 : Cond.methodLink RX3 3 objectInit ∈ wsL_law := wlm_4 _ (List.mem_of_getElem? (i := 20) rfl)
theorem qw_93 : Cond.fieldLink RX3 9 "RoadWheels$LawReader" "code" "[I" ∈ wsL_law := wlm_4 _ (List.mem_of_getElem? (i := 21) rfl)
theorem qw_94 : Cond.fieldLink RX3 15 "RoadWheels$LawReader" "tape" "LRoadWheels$Tape;" ∈ wsL_law := wlm_4 _ (List.mem_of_getElem? (i := 22) rfl)
theorem qw_95 : Cond.instanceMethod yX4_init ∈ wsL_law := wlm_4 _ (List.mem_of_getElem? (i := 23) rfl)
theorem qw_96 : Cond.code yX4_init cX4_init 1 none ∈ wsL_law := wlm_5 _ (List.mem_of_getElem? (i := 0) rfl)
theorem qw_97 : Cond.methodLink RX4 3 objectInit ∈ wsL_law := wlm_5 _ (List.mem_of_getElem? (i := 1) rfl)
theorem qw_98 : Cond.classLink RX4 9 "[[I" ∈ wsL_law := wlm_5 _ (List.mem_of_getElem? (i := 2) rfl)
theorem qw_99 : Cond.fieldLink RX4 11 "RoadWheels$Laws" "codes" "[[I" ∈ wsL_law := wlm_5 _ (List.mem_of_getElem? (i := 3) rfl)
theorem qw_100 : Cond.fieldLink RX4 16 "RoadWheels$Laws" "sizes" "[I" ∈ wsL_law := wlm_5 _ (List.mem_of_getElem? (i := 4) rfl)
theorem qw_101 : Cond.fieldLink RX4 20 "RoadWheels$Laws" "stack" "[I" ∈ wsL_law := wlm_5 _ (List.mem_of_getElem? (i := 5) rfl)
theorem qw_102 : Cond.fieldLink RX4 23 "RoadWheels$Laws" "holding" "I" ∈ wsL_law := wlm_5 _ (List.mem_of_getElem? (i := 6) rfl)
theorem qw_103 : Cond.instanceMethod yX10_init ∈ wsL_law := wlm_5 _ (List.mem_of_getElem? (i := 7) rfl)
theorem qw_104 : Cond.code yX10_init cX10_init 1 none ∈ wsL_law := wlm_5 _ (List.mem_of_getElem? (i := 8) rfl)
theorem qw_105 : Cond.methodLink RX10 3 objectInit ∈ wsL_law := wlm_5 _ (List.mem_of_getElem? (i := 9) rfl)
theorem qw_106 : Cond.classLink RX10 9 "[[I" ∈ wsL_law := wlm_5 _ (List.mem_of_getElem? (i := 10) rfl)
theorem qw_107 : Cond.fieldLink RX10 11 "RoadWheels$Ways" "stops" "[[I" ∈ wsL_law := wlm_5 _ (List.mem_of_getElem? (i := 11) rfl)
theorem qw_108 : Cond.fieldLink RX10 16 "RoadWheels$Ways" "sizes" "[I" ∈ wsL_law := wlm_5 _ (List.mem_of_getElem? (i := 12) rfl)
theorem qw_109 : Cond.fieldLink RX10 20 "RoadWheels$Ways" "read" "[I" ∈ wsL_law := wlm_5 _ (List.mem_of_getElem? (i := 13) rfl)
theorem qw_110 : Cond.instanceMethod yX8_init ∈ wsL_law := wlm_5 _ (List.mem_of_getElem? (i := 14) rfl)
theorem qw_111 : Cond.code yX8_init cX8_init 1 none ∈ wsL_law := wlm_5 _ (List.mem_of_getElem? (i := 15) rfl)
theorem qw_112 : Cond.methodLink RX8 3 objectInit ∈ wsL_law := wlm_5 _ (List.mem_of_getElem? (i := 16) rfl)
theorem qw_113 : Cond.fieldLink RX8 9 "RoadWheels$State" "place" "[I" ∈ wsL_law := wlm_5 _ (List.mem_of_getElem? (i := 17) rfl)
theorem qw_114 : Cond.fieldLink RX8 15 "RoadWheels$State" "way" "[I" ∈ wsL_law := wlm_5 _ (List.mem_of_getElem? (i := 18) rfl)
theorem qw_115 : Cond.fieldLink RX8 18 "RoadWheels$State" "behind" "[I" ∈ wsL_law := wlm_5 _ (List.mem_of_getElem? (i := 19) rfl)
theorem qw_116 : Cond.fieldLink RX8 21 "RoadWheels$State" "gone" "[I" ∈ wsL_law := wlm_5 _ (List.mem_of_getElem? (i := 20) rfl)
theorem qw_117 : Cond.fieldLink RX8 24 "RoadWheels$State" "calls" "[I" ∈ wsL_law := wlm_5 _ (List.mem_of_getElem? (i := 21) rfl)
theorem qw_118 : Cond.methodLink RX11 61 yX1_init ∈ wsL_law := wlm_5 _ (List.mem_of_getElem? (i := 22) rfl)
theorem qw_119 : Cond.instanceMethod yX1_init ∈ wsL_law := wlm_5 _ (List.mem_of_getElem? (i := 23) rfl)
theorem qw_120 : Cond.code yX1_init cX1_init 4 none ∈ wsL_law := wlm_6 _ (List.mem_of_getElem? (i := 0) rfl)
theorem qw_121 : Cond.methodLink RX1 3 objectInit ∈ wsL_law := wlm_6 _ (List.mem_of_getElem? (i := 1) rfl)
theorem qw_122 : Cond.fieldLink RX1 19 "RoadWheels$Days" "letters" "[I" ∈ wsL_law := wlm_6 _ (List.mem_of_getElem? (i := 2) rfl)
theorem qw_123 : Cond.fieldLink RX1 25 "RoadWheels$Days" "hoursOf" "[I" ∈ wsL_law := wlm_6 _ (List.mem_of_getElem? (i := 3) rfl)
theorem qw_124 : Cond.fieldLink RX1 28 "RoadWheels$Days" "county" "LRoadWheels$County;" ∈ wsL_law := wlm_6 _ (List.mem_of_getElem? (i := 4) rfl)
theorem qw_125 : Cond.fieldLink RX1 32 "RoadWheels$Days" "laws" "LRoadWheels$Laws;" ∈ wsL_law := wlm_6 _ (List.mem_of_getElem? (i := 5) rfl)
theorem qw_126 : Cond.fieldLink RX1 36 "RoadWheels$Days" "ways" "LRoadWheels$Ways;" ∈ wsL_law := wlm_6 _ (List.mem_of_getElem? (i := 6) rfl)
theorem qw_127 : Cond.methodLink RX1 13 yJ0_length_8abf5 ∈ wsL_law := wlm_6 _ (List.mem_of_getElem? (i := 7) rfl)
theorem qw_128 : Cond.methodLink RX11 70 yX6_init ∈ wsL_law := wlm_6 _ (List.mem_of_getElem? (i := 8) rfl)
theorem qw_129 : Cond.instanceMethod yX6_init ∈ wsL_law := wlm_6 _ (List.mem_of_getElem? (i := 9) rfl)
theorem qw_130 : Cond.code yX6_init cX6_init 2 none ∈ wsL_law := wlm_6 _ (List.mem_of_getElem? (i := 10) rfl)
theorem qw_131 : Cond.methodLink RX6 3 objectInit ∈ wsL_law := wlm_6 _ (List.mem_of_getElem? (i := 11) rfl)
theorem qw_132 : Cond.classLink RX6 9 RX8 ∈ wsL_law := wlm_6 _ (List.mem_of_getElem? (i := 12) rfl)
theorem qw_133 : Cond.fieldLink RX6 11 "RoadWheels$Past" "ahead" "[LRoadWheels$State;" ∈ wsL_law := wlm_6 _ (List.mem_of_getElem? (i := 13) rfl)
theorem qw_134 : Cond.fieldLink RX6 17 "RoadWheels$Past" "rows" "[I" ∈ wsL_law := wlm_6 _ (List.mem_of_getElem? (i := 14) rfl)
theorem qw_135 : Cond.fieldLink RX6 22 "RoadWheels$Past" "imageState" "LRoadWheels$State;" ∈ wsL_law := wlm_6 _ (List.mem_of_getElem? (i := 15) rfl)
theorem qw_136 : Cond.fieldLink RX6 26 "RoadWheels$Past" "imageRows" "[I" ∈ wsL_law := wlm_6 _ (List.mem_of_getElem? (i := 16) rfl)
theorem qw_137 : Cond.methodLink RX11 77 yX5_init ∈ wsL_law := wlm_6 _ (List.mem_of_getElem? (i := 17) rfl)
theorem qw_138 : Cond.instanceMethod yX5_init ∈ wsL_law := wlm_6 _ (List.mem_of_getElem? (i := 18) rfl)
theorem qw_139 : Cond.code yX5_init cX5_init 3 none ∈ wsL_law := wlm_6 _ (List.mem_of_getElem? (i := 19) rfl)
theorem qw_140 : Cond.methodLink RX5 3 objectInit ∈ wsL_law := wlm_6 _ (List.mem_of_getElem? (i := 20) rfl)
theorem qw_141 : Cond.classLink RX5 9 "[[I" ∈ wsL_law := wlm_6 _ (List.mem_of_getElem? (i := 21) rfl)
theorem qw_142 : Cond.fieldLink RX5 11 "RoadWheels$Net" "direct" "[[I" ∈ wsL_law := wlm_6 _ (List.mem_of_getElem? (i := 22) rfl)
theorem qw_143 : Cond.fieldLink RX5 16 "RoadWheels$Net" "hours" "[[I" ∈ wsL_law := wlm_6 _ (List.mem_of_getElem? (i := 23) rfl)
theorem qw_144 : Cond.fieldLink RX5 19 "RoadWheels$Net" "placesTo" "[I" ∈ wsL_law := wlm_7 _ (List.mem_of_getElem? (i := 0) rfl)
theorem qw_145 : Cond.fieldLink RX5 23 "RoadWheels$Net" "county" "LRoadWheels$County;" ∈ wsL_law := wlm_7 _ (List.mem_of_getElem? (i := 1) rfl)
theorem qw_146 : Cond.fieldLink RX5 27 "RoadWheels$Net" "calendar" "LRoadWheels$Days;" ∈ wsL_law := wlm_7 _ (List.mem_of_getElem? (i := 2) rfl)
theorem qw_147 : Cond.methodLink RX11 86 yX7_init ∈ wsL_law := wlm_7 _ (List.mem_of_getElem? (i := 3) rfl)
theorem qw_148 : Cond.instanceMethod yX7_init ∈ wsL_law := wlm_7 _ (List.mem_of_getElem? (i := 4) rfl)
theorem qw_149 : Cond.code yX7_init cX7_init 5 none ∈ wsL_law := wlm_7 _ (List.mem_of_getElem? (i := 5) rfl)
theorem qw_150 : Cond.methodLink RX7 3 objectInit ∈ wsL_law := wlm_7 _ (List.mem_of_getElem? (i := 6) rfl)
theorem qw_151 : Cond.fieldLink RX7 9 "RoadWheels$Sightings" "sets" "[I" ∈ wsL_law := wlm_7 _ (List.mem_of_getElem? (i := 7) rfl)
theorem qw_152 : Cond.fieldLink RX7 15 "RoadWheels$Sightings" "places" "[I" ∈ wsL_law := wlm_7 _ (List.mem_of_getElem? (i := 8) rfl)
theorem qw_153 : Cond.fieldLink RX7 18 "RoadWheels$Sightings" "days" "[I" ∈ wsL_law := wlm_7 _ (List.mem_of_getElem? (i := 9) rfl)
theorem qw_154 : Cond.arrayClass .boolean ∈ wsL_law := wlm_7 _ (List.mem_of_getElem? (i := 10) rfl)
theorem qw_155 : Cond.fieldLink RX7 21 "RoadWheels$Sightings" "was" "[Z" ∈ wsL_law := wlm_7 _ (List.mem_of_getElem? (i := 11) rfl)
theorem qw_156 : Cond.classLink RX7 25 "[[I" ∈ wsL_law := wlm_7 _ (List.mem_of_getElem? (i := 12) rfl)
theorem qw_157 : Cond.fieldLink RX7 27 "RoadWheels$Sightings" "placeBehind" "[[I" ∈ wsL_law := wlm_7 _ (List.mem_of_getElem? (i := 13) rfl)
theorem qw_158 : Cond.fieldLink RX7 30 "RoadWheels$Sightings" "county" "LRoadWheels$County;" ∈ wsL_law := wlm_7 _ (List.mem_of_getElem? (i := 14) rfl)
theorem qw_159 : Cond.fieldLink RX7 34 "RoadWheels$Sightings" "ways" "LRoadWheels$Ways;" ∈ wsL_law := wlm_7 _ (List.mem_of_getElem? (i := 15) rfl)
theorem qw_160 : Cond.fieldLink RX7 38 "RoadWheels$Sightings" "calendar" "LRoadWheels$Days;" ∈ wsL_law := wlm_7 _ (List.mem_of_getElem? (i := 16) rfl)
theorem qw_161 : Cond.fieldLink RX7 42 "RoadWheels$Sightings" "trial" "LRoadWheels$State;" ∈ wsL_law := wlm_7 _ (List.mem_of_getElem? (i := 17) rfl)
theorem qw_162 : Cond.methodLink RX11 95 yX2_init ∈ wsL_law := wlm_7 _ (List.mem_of_getElem? (i := 18) rfl)
theorem qw_163 : Cond.instanceMethod yX2_init ∈ wsL_law := wlm_7 _ (List.mem_of_getElem? (i := 19) rfl)
theorem qw_164 : Cond.code yX2_init cX2_init 4 none ∈ wsL_law := wlm_7 _ (List.mem_of_getElem? (i := 20) rfl)
theorem qw_165 : Cond.methodLink RX2 3 objectInit ∈ wsL_law := wlm_7 _ (List.mem_of_getElem? (i := 21) rfl)
theorem qw_166 : Cond.fieldLink RX2 9 "RoadWheels$Errands" "county" "LRoadWheels$County;" ∈ wsL_law := wlm_7 _ (List.mem_of_getElem? (i := 22) rfl)
theorem qw_167 : Cond.fieldLink RX2 15 "RoadWheels$Errands" "now" "LRoadWheels$State;" ∈ wsL_law := wlm_7 _ (List.mem_of_getElem? (i := 23) rfl)
theorem qw_168 : Cond.fieldLink RX2 19 "RoadWheels$Errands" "net" "LRoadWheels$Net;" ∈ wsL_law := wlm_8 _ (List.mem_of_getElem? (i := 0) rfl)
theorem qw_169 : Cond.methodLink RL 18 yX12_init ∈ wsL_law := wlm_8 _ (List.mem_of_getElem? (i := 1) rfl)
theorem qw_170 : Cond.instanceMethod yX12_init ∈ wsL_law := wlm_8 _ (List.mem_of_getElem? (i := 2) rfl)
theorem qw_171 : Cond.code yX12_init cX12_init 1 none ∈ wsL_law := wlm_8 _ (List.mem_of_getElem? (i := 3) rfl)
theorem qw_172 : Cond.methodLink RX12 3 objectInit ∈ wsL_law := wlm_8 _ (List.mem_of_getElem? (i := 4) rfl)
theorem qw_173 : Cond.fieldLink RX12 9 "RoadWheelsModel" "tape" "[I" ∈ wsL_law := wlm_8 _ (List.mem_of_getElem? (i := 5) rfl)
theorem qw_174 : Cond.fieldLink RX12 13 "RoadWheelsModel" "code" "[I" ∈ wsL_law := wlm_8 _ (List.mem_of_getElem? (i := 6) rfl)
theorem qw_175 : Cond.fieldLink RX12 16 "RoadWheelsModel" "value" "[I" ∈ wsL_law := wlm_8 _ (List.mem_of_getElem? (i := 7) rfl)
theorem qw_176 : Cond.fieldLink RX12 19 "RoadWheelsModel" "codes" "[I" ∈ wsL_law := wlm_8 _ (List.mem_of_getElem? (i := 8) rfl)
theorem qw_177 : Cond.fieldLink RX12 22 "RoadWheelsModel" "clauses" "[I" ∈ wsL_law := wlm_8 _ (List.mem_of_getElem? (i := 9) rfl)
theorem qw_178 : Cond.fieldLink RX12 25 "RoadWheelsModel" "testFrom" "[I" ∈ wsL_law := wlm_8 _ (List.mem_of_getElem? (i := 10) rfl)
theorem qw_179 : Cond.fieldLink RX12 28 "RoadWheelsModel" "sumFrom" "[I" ∈ wsL_law := wlm_8 _ (List.mem_of_getElem? (i := 11) rfl)
theorem qw_180 : Cond.fieldLink RX12 31 "RoadWheelsModel" "sumTo" "[I" ∈ wsL_law := wlm_8 _ (List.mem_of_getElem? (i := 12) rfl)
theorem qw_181 : Cond.fieldLink RX12 34 "RoadWheelsModel" "letters" "[I" ∈ wsL_law := wlm_8 _ (List.mem_of_getElem? (i := 13) rfl)
theorem qw_182 : Cond.fieldLink RX12 37 "RoadWheelsModel" "stack" "[I" ∈ wsL_law := wlm_8 _ (List.mem_of_getElem? (i := 14) rfl)
theorem qw_183 : Cond.fieldLink RX12 40 "RoadWheelsModel" "readRule" "[I" ∈ wsL_law := wlm_8 _ (List.mem_of_getElem? (i := 15) rfl)
theorem qw_184 : Cond.fieldLink RX12 43 "RoadWheelsModel" "readPlace" "[I" ∈ wsL_law := wlm_8 _ (List.mem_of_getElem? (i := 16) rfl)
theorem qw_185 : Cond.fieldLink RX12 46 "RoadWheelsModel" "readRoad" "[I" ∈ wsL_law := wlm_8 _ (List.mem_of_getElem? (i := 17) rfl)
theorem qw_186 : Cond.fieldLink RX12 49 "RoadWheelsModel" "readSet" "[I" ∈ wsL_law := wlm_8 _ (List.mem_of_getElem? (i := 18) rfl)
theorem qw_187 : Cond.fieldLink RX12 52 "RoadWheelsModel" "rule" "[I" ∈ wsL_law := wlm_8 _ (List.mem_of_getElem? (i := 19) rfl)
theorem qw_188 : Cond.fieldLink RX12 55 "RoadWheelsModel" "customers" "[I" ∈ wsL_law := wlm_8 _ (List.mem_of_getElem? (i := 20) rfl)
theorem qw_189 : Cond.fieldLink RX12 58 "RoadWheelsModel" "road" "[I" ∈ wsL_law := wlm_8 _ (List.mem_of_getElem? (i := 21) rfl)
theorem qw_190 : Cond.fieldLink RX12 61 "RoadWheelsModel" "firstSpot" "[I" ∈ wsL_law := wlm_8 _ (List.mem_of_getElem? (i := 22) rfl)
theorem qw_191 : Cond.fieldLink RX12 64 "RoadWheelsModel" "ways" "[I" ∈ wsL_law := wlm_8 _ (List.mem_of_getElem? (i := 23) rfl)
theorem qw_192 : Cond.fieldLink RX12 67 "RoadWheelsModel" "wayLong" "[I" ∈ wsL_law := wlm_9 _ (List.mem_of_getElem? (i := 0) rfl)
theorem qw_193 : Cond.fieldLink RX12 70 "RoadWheelsModel" "now" "[I" ∈ wsL_law := wlm_9 _ (List.mem_of_getElem? (i := 1) rfl)
theorem qw_194 : Cond.fieldLink RX12 73 "RoadWheelsModel" "refused" "[I" ∈ wsL_law := wlm_9 _ (List.mem_of_getElem? (i := 2) rfl)
theorem qw_195 : Cond.fieldLink RX12 76 "RoadWheelsModel" "holding" "I" ∈ wsL_law := wlm_9 _ (List.mem_of_getElem? (i := 3) rfl)
theorem qw_196 : Cond.fieldLink RX12 80 "RoadWheelsModel" "flooded" "I" ∈ wsL_law := wlm_9 _ (List.mem_of_getElem? (i := 4) rfl)
theorem qw_197 : Cond.fieldLink RX12 83 "RoadWheelsModel" "longs" "[I" ∈ wsL_law := wlm_9 _ (List.mem_of_getElem? (i := 5) rfl)
theorem qw_198 : Cond.fieldLink RX12 86 "RoadWheelsModel" "goneToday" "[I" ∈ wsL_law := wlm_9 _ (List.mem_of_getElem? (i := 6) rfl)
theorem qw_199 : Cond.fieldLink RX12 89 "RoadWheelsModel" "kept" "[I" ∈ wsL_law := wlm_9 _ (List.mem_of_getElem? (i := 7) rfl)
theorem qw_200 : Cond.fieldLink RX12 92 "RoadWheelsModel" "direct" "[I" ∈ wsL_law := wlm_9 _ (List.mem_of_getElem? (i := 8) rfl)
theorem qw_201 : Cond.fieldLink RX12 95 "RoadWheelsModel" "away" "[I" ∈ wsL_law := wlm_9 _ (List.mem_of_getElem? (i := 9) rfl)
theorem qw_202 : Cond.fieldLink RX12 98 "RoadWheelsModel" "aside" "[I" ∈ wsL_law := wlm_9 _ (List.mem_of_getElem? (i := 10) rfl)
theorem qw_203 : Cond.fieldLink RX12 101 "RoadWheelsModel" "noteSet" "[I" ∈ wsL_law := wlm_9 _ (List.mem_of_getElem? (i := 11) rfl)
theorem qw_204 : Cond.fieldLink RX12 104 "RoadWheelsModel" "notePlace" "[I" ∈ wsL_law := wlm_9 _ (List.mem_of_getElem? (i := 12) rfl)
theorem qw_205 : Cond.fieldLink RX12 107 "RoadWheelsModel" "noteDays" "[I" ∈ wsL_law := wlm_9 _ (List.mem_of_getElem? (i := 13) rfl)
theorem qw_206 : Cond.fieldLink RX12 110 "RoadWheelsModel" "noteIs" "[Z" ∈ wsL_law := wlm_9 _ (List.mem_of_getElem? (i := 14) rfl)
theorem qw_207 : Cond.fieldLink RX12 114 "RoadWheelsModel" "trail" "[I" ∈ wsL_law := wlm_9 _ (List.mem_of_getElem? (i := 15) rfl)
theorem qw_208 : Cond.fieldLink RX12 117 "RoadWheelsModel" "image" "[I" ∈ wsL_law := wlm_9 _ (List.mem_of_getElem? (i := 16) rfl)
theorem qw_209 : Cond.methodLink RL 19 yX11_feed ∈ wsL_law := wlm_9 _ (List.mem_of_getElem? (i := 17) rfl)
theorem qw_210 : Cond.instanceMethod yX11_feed ∈ wsL_law := wlm_9 _ (List.mem_of_getElem? (i := 18) rfl)
theorem qw_211 : Cond.selects RX11 yX11_feed yX11_feed ∈ wsL_law := wlm_9 _ (List.mem_of_getElem? (i := 19) rfl)
theorem qw_212 : Cond.code yX11_feed cX11_feed 7 (some .int) ∈ wsL_law := wlm_9 _ (List.mem_of_getElem? (i := 20) rfl)
theorem qw_213 : Cond.methodLink RX11 110 yX9_bytesOf ∈ wsL_law := wlm_9 _ (List.mem_of_getElem? (i := 21) rfl)
theorem qw_214 : Cond.static yX9_bytesOf ∈ wsL_law := wlm_9 _ (List.mem_of_getElem? (i := 22) rfl)
theorem qw_215 : Cond.code yX9_bytesOf cX9_bytesOf 3 (some .int) ∈ wsL_law := wlm_9 _ (List.mem_of_getElem? (i := 23) rfl)
theorem qw_216 : Cond.methodLink RX11 117 yX9_append ∈ wsL_law := wlm_10 _ (List.mem_of_getElem? (i := 0) rfl)
theorem qw_217 : Cond.instanceMethod yX9_append ∈ wsL_law := wlm_10 _ (List.mem_of_getElem? (i := 1) rfl)
theorem qw_218 : Cond.selects RX9 yX9_append yX9_append ∈ wsL_law := wlm_10 _ (List.mem_of_getElem? (i := 2) rfl)
theorem qw_219 : Cond.code yX9_append cX9_append 4 none ∈ wsL_law := wlm_10 _ (List.mem_of_getElem? (i := 3) rfl)
theorem qw_220 : Cond.fieldLink RX9 15 "RoadWheels$Tape" "size" "I" ∈ wsL_law := wlm_10 _ (List.mem_of_getElem? (i := 4) rfl)
theorem qw_221 : Cond.methodLink RL 23 yX12_feed ∈ wsL_law := wlm_10 _ (List.mem_of_getElem? (i := 5) rfl)
theorem qw_222 : Cond.instanceMethod yX12_feed ∈ wsL_law := wlm_10 _ (List.mem_of_getElem? (i := 6) rfl)
theorem qw_223 : Cond.selects RX12 yX12_feed yX12_feed ∈ wsL_law := wlm_10 _ (List.mem_of_getElem? (i := 7) rfl)
theorem qw_224 : Cond.code yX12_feed cX12_feed 9 (some .int) ∈ wsL_law := wlm_10 _ (List.mem_of_getElem? (i := 8) rfl)
theorem qw_225 : Cond.fieldLink RX12 127 "RoadWheelsModel" "size" "I" ∈ wsL_law := wlm_10 _ (List.mem_of_getElem? (i := 9) rfl)
theorem qw_226 : Cond.methodLink RX12 123 yX12_byteOf ∈ wsL_law := wlm_10 _ (List.mem_of_getElem? (i := 10) rfl)
theorem qw_227 : Cond.static yX12_byteOf ∈ wsL_law := wlm_10 _ (List.mem_of_getElem? (i := 11) rfl)
theorem qw_228 : Cond.code yX12_byteOf cX12_byteOf 7 (some .int) ∈ wsL_law := wlm_10 _ (List.mem_of_getElem? (i := 12) rfl)
theorem qw_229 : Cond.methodLink RL 24 yX11_end ∈ wsL_law := wlm_10 _ (List.mem_of_getElem? (i := 13) rfl)
theorem qw_230 : Cond.instanceMethod yX11_end ∈ wsL_law := wlm_10 _ (List.mem_of_getElem? (i := 14) rfl)
theorem qw_231 : Cond.selects RX11 yX11_end yX11_end ∈ wsL_law := wlm_10 _ (List.mem_of_getElem? (i := 15) rfl)
theorem qw_232 : Cond.code yX11_end cX11_end 2 (some .boolean) ∈ wsL_law := wlm_10 _ (List.mem_of_getElem? (i := 16) rfl)
theorem qw_233 : Cond.methodLink RL 28 yX12_end ∈ wsL_law := wlm_10 _ (List.mem_of_getElem? (i := 17) rfl)
theorem qw_234 : Cond.instanceMethod yX12_end ∈ wsL_law := wlm_10 _ (List.mem_of_getElem? (i := 18) rfl)
theorem qw_235 : Cond.selects RX12 yX12_end yX12_end ∈ wsL_law := wlm_10 _ (List.mem_of_getElem? (i := 19) rfl)
theorem qw_236 : Cond.code yX12_end cX12_end 2 (some .boolean) ∈ wsL_law := wlm_10 _ (List.mem_of_getElem? (i := 20) rfl)
theorem qw_237 : Cond.methodLink RL 29 yX11_fault ∈ wsL_law := wlm_10 _ (List.mem_of_getElem? (i := 21) rfl)
theorem qw_238 : Cond.instanceMethod yX11_fault ∈ wsL_law := wlm_10 _ (List.mem_of_getElem? (i := 22) rfl)
theorem qw_239 : Cond.selects RX11 yX11_fault yX11_fault ∈ wsL_law := wlm_10 _ (List.mem_of_getElem? (i := 23) rfl)
theorem qw_240 : Cond.code yX11_fault cX11_fault 2 (some .int) ∈ wsL_law := wlm_11 _ (List.mem_of_getElem? (i := 0) rfl)
theorem qw_241 : Cond.methodLink RX11 121 yX11_reads ∈ wsL_law := wlm_11 _ (List.mem_of_getElem? (i := 1) rfl)
theorem qw_242 : Cond.instanceMethod yX11_reads ∈ wsL_law := wlm_11 _ (List.mem_of_getElem? (i := 2) rfl)
theorem qw_243 : Cond.selects RX11 yX11_reads yX11_reads ∈ wsL_law := wlm_11 _ (List.mem_of_getElem? (i := 3) rfl)
theorem qw_244 : Cond.code yX11_reads cX11_reads 2 (some .boolean) ∈ wsL_law := wlm_11 _ (List.mem_of_getElem? (i := 4) rfl)
theorem qw_245 : Cond.methodLink RX11 128 yX0_readFrom ∈ wsL_law := wlm_11 _ (List.mem_of_getElem? (i := 5) rfl)
theorem qw_246 : Cond.instanceMethod yX0_readFrom ∈ wsL_law := wlm_11 _ (List.mem_of_getElem? (i := 6) rfl)
theorem qw_247 : Cond.selects RX0 yX0_readFrom yX0_readFrom ∈ wsL_law := wlm_11 _ (List.mem_of_getElem? (i := 7) rfl)
theorem qw_248 : Cond.code yX0_readFrom cX0_readFrom 3 (some .boolean) ∈ wsL_law := wlm_11 _ (List.mem_of_getElem? (i := 8) rfl)
theorem qw_249 : Cond.fieldLink RX0 69 "RoadWheels$County" "rules" "I" ∈ wsL_law := wlm_11 _ (List.mem_of_getElem? (i := 9) rfl)
theorem qw_250 : Cond.fieldLink RX0 72 "RoadWheels$County" "USUAL" "[I" ∈ wsL_law := wlm_11 _ (List.mem_of_getElem? (i := 10) rfl)
theorem qw_251 : Cond.fieldLink RX0 57 "RoadWheels$County" "hours" "I" ∈ wsL_law := wlm_11 _ (List.mem_of_getElem? (i := 11) rfl)
theorem qw_252 : Cond.fieldLink RX0 60 "RoadWheels$County" "coins" "I" ∈ wsL_law := wlm_11 _ (List.mem_of_getElem? (i := 12) rfl)
theorem qw_253 : Cond.fieldLink RX0 40 "RoadWheels$County" "places" "I" ∈ wsL_law := wlm_11 _ (List.mem_of_getElem? (i := 13) rfl)
theorem qw_254 : Cond.fieldLink RX0 48 "RoadWheels$County" "roads" "I" ∈ wsL_law := wlm_11 _ (List.mem_of_getElem? (i := 14) rfl)
theorem qw_255 : Cond.fieldLink RX0 51 "RoadWheels$County" "sets" "I" ∈ wsL_law := wlm_11 _ (List.mem_of_getElem? (i := 15) rfl)
theorem qw_256 : Cond.methodLink RX0 80 yX0_readClause ∈ wsL_law := wlm_11 _ (List.mem_of_getElem? (i := 16) rfl)
theorem qw_257 : Cond.instanceMethod yX0_readClause ∈ wsL_law := wlm_11 _ (List.mem_of_getElem? (i := 17) rfl)
theorem qw_258 : Cond.selects RX0 yX0_readClause yX0_readClause ∈ wsL_law := wlm_11 _ (List.mem_of_getElem? (i := 18) rfl)
theorem qw_259 : Cond.code yX0_readClause cX0_readClause 4 (some .boolean) ∈ wsL_law := wlm_11 _ (List.mem_of_getElem? (i := 19) rfl)
theorem qw_260 : Cond.fieldLink RX0 103 "RoadWheels$County" "MOST_CLAUSES" "[I" ∈ wsL_law := wlm_11 _ (List.mem_of_getElem? (i := 20) rfl)
theorem qw_261 : Cond.fieldLink RX0 106 "RoadWheels$County" "FIRST_ITEM" "[I" ∈ wsL_law := wlm_11 _ (List.mem_of_getElem? (i := 21) rfl)
theorem qw_262 : Cond.methodLink RX0 84 yX9_sign ∈ wsL_law := wlm_11 _ (List.mem_of_getElem? (i := 22) rfl)
theorem qw_263 : Cond.instanceMethod yX9_sign ∈ wsL_law := wlm_11 _ (List.mem_of_getElem? (i := 23) rfl)
theorem qw_264 : Cond.selects RX9 yX9_sign yX9_sign ∈ wsL_law := wlm_12 _ (List.mem_of_getElem? (i := 0) rfl)
theorem qw_265 : Cond.code yX9_sign cX9_sign 1 (some .int) ∈ wsL_law := wlm_12 _ (List.mem_of_getElem? (i := 1) rfl)
theorem qw_266 : Cond.fieldLink RX9 19 "RoadWheels$Tape" "at" "I" ∈ wsL_law := wlm_12 _ (List.mem_of_getElem? (i := 2) rfl)
theorem qw_267 : Cond.methodLink RX0 96 yJ0_indexOf_0f7a4 ∈ wsL_law := wlm_12 _ (List.mem_of_getElem? (i := 3) rfl)
theorem qw_268 : Cond.instanceMethod yJ0_indexOf_0f7a4 ∈ wsL_law := wlm_12 _ (List.mem_of_getElem? (i := 4) rfl)
theorem qw_269 : Cond.selects RJ0 yJ0_indexOf_0f7a4 yJ0_indexOf_0f7a4 ∈ wsL_law := wlm_12 _ (List.mem_of_getElem? (i := 5) rfl)
theorem qw_270 : Cond.code yJ0_indexOf_0f7a4 cJ0_indexOf_0f7a4 2 (some .int) ∈ wsL_law := wlm_12 _ (List.mem_of_getElem? (i := 6) rfl)
theorem qw_271 : Cond.methodLink RJ0 633 yJ0_indexOf_7cf53 ∈ wsL_law := wlm_12 _ (List.mem_of_getElem? (i := 7) rfl)
theorem qw_272 : Cond.instanceMethod yJ0_indexOf_7cf53 ∈ wsL_law := wlm_12 _ (List.mem_of_getElem? (i := 8) rfl)
theorem qw_273 : Cond.selects RJ0 yJ0_indexOf_7cf53 yJ0_indexOf_7cf53 ∈ wsL_law := wlm_12 _ (List.mem_of_getElem? (i := 9) rfl)
theorem qw_274 : Cond.code yJ0_indexOf_7cf53 cJ0_indexOf_7cf53 3 (some .int) ∈ wsL_law := wlm_12 _ (List.mem_of_getElem? (i := 10) rfl)
theorem qw_275 : Cond.methodLink RJ0 492 yJ0_isLatin1_aae02 ∈ wsL_law := wlm_12 _ (List.mem_of_getElem? (i := 11) rfl)
theorem qw_276 : Cond.instanceMethod yJ0_isLatin1_aae02 ∈ wsL_law := wlm_12 _ (List.mem_of_getElem? (i := 12) rfl)
theorem qw_277 : Cond.selects RJ0 yJ0_isLatin1_aae02 yJ0_isLatin1_aae02 ∈ wsL_law := wlm_12 _ (List.mem_of_getElem? (i := 13) rfl)
theorem qw_278 : Cond.code yJ0_isLatin1_aae02 cJ0_isLatin1_aae02 1 (some .boolean) ∈ wsL_law := wlm_12 _ (List.mem_of_getElem? (i := 14) rfl)
theorem qw_279 : Cond.methodLink RJ0 505 yJ0_length_8abf5 ∈ wsL_law := wlm_12 _ (List.mem_of_getElem? (i := 15) rfl)
theorem qw_280 : Cond.methodLink RJ0 637 yJ1_indexOf_4cfef ∈ wsL_law := wlm_12 _ (List.mem_of_getElem? (i := 16) rfl)
theorem qw_281 : Cond.static yJ1_indexOf_4cfef ∈ wsL_law := wlm_12 _ (List.mem_of_getElem? (i := 17) rfl)
theorem qw_282 : Cond.initialized RJ1 ∈ wsL_law := wlm_12 _ (List.mem_of_getElem? (i := 18) rfl)
theorem qw_283 : Cond.code yJ1_indexOf_4cfef cJ1_indexOf_4cfef 4 (some .int) ∈ wsL_law := wlm_12 _ (List.mem_of_getElem? (i := 19) rfl)
theorem qw_284 : Cond.methodLink RJ1 92 Lib.Math.max.name ∈ wsL_law := wlm_12 _ (List.mem_of_getElem? (i := 20) rfl)
theorem qw_285 : Cond.static Lib.Math.max.name ∈ wsL_law := wlm_12 _ (List.mem_of_getElem? (i := 21) rfl)
theorem qw_286 : Cond.initialized "java/lang/Math" ∈ wsL_law := wlm_12 _ (List.mem_of_getElem? (i := 22) rfl)
theorem qw_287 : Cond.code Lib.Math.max.name Lib.Math.max.code 2 (some .int) ∈ wsL_law := wlm_12 _ (List.mem_of_getElem? (i := 23) rfl)
theorem qw_288 : Cond.methodLink RJ1 38 Lib.Math.min.name ∈ wsL_law := wlm_13 _ (List.mem_of_getElem? (i := 0) rfl)
theorem qw_289 : Cond.static Lib.Math.min.name ∈ wsL_law := wlm_13 _ (List.mem_of_getElem? (i := 1) rfl)
theorem qw_290 : Cond.code Lib.Math.min.name Lib.Math.min.code 2 (some .int) ∈ wsL_law := wlm_13 _ (List.mem_of_getElem? (i := 2) rfl)
theorem qw_291 : Cond.methodLink RJ1 88 yJ1_canEncode_9a6ad ∈ wsL_law := wlm_13 _ (List.mem_of_getElem? (i := 3) rfl)
theorem qw_292 : Cond.static yJ1_canEncode_9a6ad ∈ wsL_law := wlm_13 _ (List.mem_of_getElem? (i := 4) rfl)
theorem qw_293 : Cond.code yJ1_canEncode_9a6ad cJ1_canEncode_9a6ad 1 (some .boolean) ∈ wsL_law := wlm_13 _ (List.mem_of_getElem? (i := 5) rfl)
theorem qw_294 : Cond.methodLink RJ1 95 yJ1_indexOfChar_4cfef ∈ wsL_law := wlm_13 _ (List.mem_of_getElem? (i := 6) rfl)
theorem qw_295 : Cond.static yJ1_indexOfChar_4cfef ∈ wsL_law := wlm_13 _ (List.mem_of_getElem? (i := 7) rfl)
theorem qw_296 : Cond.code yJ1_indexOfChar_4cfef cJ1_indexOfChar_4cfef 6 (some .int) ∈ wsL_law := wlm_13 _ (List.mem_of_getElem? (i := 8) rfl)
theorem qw_297 : Cond.methodLink RJ0 640 yJ2_indexOf_4cfef ∈ wsL_law := wlm_13 _ (List.mem_of_getElem? (i := 9) rfl)
theorem qw_298 : Cond.static yJ2_indexOf_4cfef ∈ wsL_law := wlm_13 _ (List.mem_of_getElem? (i := 10) rfl)
theorem qw_299 : Cond.initialized RJ2 ∈ wsL_law := wlm_13 _ (List.mem_of_getElem? (i := 11) rfl)
theorem qw_300 : Cond.code yJ2_indexOf_4cfef cJ2_indexOf_4cfef 4 (some .int) ∈ wsL_law := wlm_13 _ (List.mem_of_getElem? (i := 12) rfl)
theorem qw_301 : Cond.methodLink RJ2 224 Lib.Math.max.name ∈ wsL_law := wlm_13 _ (List.mem_of_getElem? (i := 13) rfl)
theorem qw_302 : Cond.methodLink RJ2 183 Lib.Math.min.name ∈ wsL_law := wlm_13 _ (List.mem_of_getElem? (i := 14) rfl)
theorem qw_303 : Cond.constant RJ2 227 (65536) ∈ wsL_law := wlm_13 _ (List.mem_of_getElem? (i := 15) rfl)
theorem qw_304 : Cond.methodLink RJ2 228 yJ2_indexOfChar_4cfef ∈ wsL_law := wlm_13 _ (List.mem_of_getElem? (i := 16) rfl)
theorem qw_305 : Cond.static yJ2_indexOfChar_4cfef ∈ wsL_law := wlm_13 _ (List.mem_of_getElem? (i := 17) rfl)
theorem qw_306 : Cond.code yJ2_indexOfChar_4cfef cJ2_indexOfChar_4cfef 4 (some .int) ∈ wsL_law := wlm_13 _ (List.mem_of_getElem? (i := 18) rfl)
theorem qw_307 : Cond.methodLink RJ2 96 yJ2_checkBoundsBeginEnd_d044e ∈ wsL_law := wlm_13 _ (List.mem_of_getElem? (i := 19) rfl)
theorem qw_308 : Cond.static yJ2_checkBoundsBeginEnd_d044e ∈ wsL_law := wlm_13 _ (List.mem_of_getElem? (i := 20) rfl)
theorem qw_309 : Cond.code yJ2_checkBoundsBeginEnd_d044e cJ2_checkBoundsBeginEnd_d044e 3 none ∈ wsL_law := wlm_13 _ (List.mem_of_getElem? (i := 21) rfl)
theorem qw_310 : Cond.methodLink RJ2 48 yJ2_length_9d52b ∈ wsL_law := wlm_13 _ (List.mem_of_getElem? (i := 22) rfl)
theorem qw_311 : Cond.static yJ2_length_9d52b ∈ wsL_law := wlm_13 _ (List.mem_of_getElem? (i := 23) rfl)
theorem qw_312 : Cond.code yJ2_length_9d52b cJ2_length_9d52b 1 (some .int) ∈ wsL_law := wlm_14 _ (List.mem_of_getElem? (i := 0) rfl)
theorem qw_313 : Cond.methodLink RJ2 241 yJ0_checkBoundsBeginEnd_23922 ∈ wsL_law := wlm_14 _ (List.mem_of_getElem? (i := 1) rfl)
theorem qw_314 : Cond.static yJ0_checkBoundsBeginEnd_23922 ∈ wsL_law := wlm_14 _ (List.mem_of_getElem? (i := 2) rfl)
theorem qw_315 : Cond.code yJ0_checkBoundsBeginEnd_23922 cJ0_checkBoundsBeginEnd_23922 3 none ∈ wsL_law := wlm_14 _ (List.mem_of_getElem? (i := 3) rfl)
theorem qw_316 : Cond.fieldLink RJ0 1053 "jdk/internal/util/Preconditions" "SIOOBE_FORMATTER" "Ljava/util/function/BiFunction;" ∈ wsL_law := wlm_14 _ (List.mem_of_getElem? (i := 4) rfl)
theorem qw_317 : Cond.methodLink RJ0 1062 yJ3_checkFromToIndex_8c36e ∈ wsL_law := wlm_14 _ (List.mem_of_getElem? (i := 5) rfl)
theorem qw_318 : Cond.static yJ3_checkFromToIndex_8c36e ∈ wsL_law := wlm_14 _ (List.mem_of_getElem? (i := 6) rfl)
theorem qw_319 : Cond.initialized RJ3 ∈ wsL_law := wlm_14 _ (List.mem_of_getElem? (i := 7) rfl)
theorem qw_320 : Cond.code yJ3_checkFromToIndex_8c36e cJ3_checkFromToIndex_8c36e 4 (some .int) ∈ wsL_law := wlm_14 _ (List.mem_of_getElem? (i := 8) rfl)
theorem qw_321 : Cond.methodLink RJ2 244 yJ2_indexOfCharUnsafe_4cfef ∈ wsL_law := wlm_14 _ (List.mem_of_getElem? (i := 9) rfl)
theorem qw_322 : Cond.static yJ2_indexOfCharUnsafe_4cfef ∈ wsL_law := wlm_14 _ (List.mem_of_getElem? (i := 10) rfl)
theorem qw_323 : Cond.code yJ2_indexOfCharUnsafe_4cfef cJ2_indexOfCharUnsafe_4cfef 5 (some .int) ∈ wsL_law := wlm_14 _ (List.mem_of_getElem? (i := 11) rfl)
theorem qw_324 : Cond.methodLink RJ2 71 yJ2_getChar_3b067 ∈ wsL_law := wlm_14 _ (List.mem_of_getElem? (i := 12) rfl)
theorem qw_325 : Cond.static yJ2_getChar_3b067 ∈ wsL_law := wlm_14 _ (List.mem_of_getElem? (i := 13) rfl)
theorem qw_326 : Cond.code yJ2_getChar_3b067 cJ2_getChar_3b067 2 (some .char) ∈ wsL_law := wlm_14 _ (List.mem_of_getElem? (i := 14) rfl)
theorem qw_327 : Cond.fieldLink RJ2 44 "java/lang/StringUTF16" "$assertionsDisabled" "Z" ∈ wsL_law := wlm_14 _ (List.mem_of_getElem? (i := 15) rfl)
theorem qw_328 : Cond.fieldLink RJ2 59 "java/lang/StringUTF16" "HI_BYTE_SHIFT" "I" ∈ wsL_law := wlm_14 _ (List.mem_of_getElem? (i := 16) rfl)
theorem qw_329 : Cond.fieldLink RJ2 63 "java/lang/StringUTF16" "LO_BYTE_SHIFT" "I" ∈ wsL_law := wlm_14 _ (List.mem_of_getElem? (i := 17) rfl)
theorem qw_330 : Cond.methodLink RJ2 232 yJ2_indexOfSupplementary_4cfef ∈ wsL_law := wlm_14 _ (List.mem_of_getElem? (i := 18) rfl)
theorem qw_331 : Cond.static yJ2_indexOfSupplementary_4cfef ∈ wsL_law := wlm_14 _ (List.mem_of_getElem? (i := 19) rfl)
theorem qw_332 : Cond.code yJ2_indexOfSupplementary_4cfef cJ2_indexOfSupplementary_4cfef 7 (some .int) ∈ wsL_law := wlm_14 _ (List.mem_of_getElem? (i := 20) rfl)
theorem qw_333 : Cond.methodLink RJ2 164 yJ11_isValidCodePoint_9a6ad ∈ wsL_law := wlm_14 _ (List.mem_of_getElem? (i := 21) rfl)
theorem qw_334 : Cond.static yJ11_isValidCodePoint_9a6ad ∈ wsL_law := wlm_14 _ (List.mem_of_getElem? (i := 22) rfl)
theorem qw_335 : Cond.initialized RJ11 ∈ wsL_law := wlm_14 _ (List.mem_of_getElem? (i := 23) rfl)
theorem qw_336 : Cond.code yJ11_isValidCodePoint_9a6ad cJ11_isValidCodePoint_9a6ad 2 (some .boolean) ∈ wsL_law := wlm_15 _ (List.mem_of_getElem? (i := 0) rfl)
theorem qw_337 : Cond.methodLink RJ2 157 yJ11_highSurrogate_5068e ∈ wsL_law := wlm_15 _ (List.mem_of_getElem? (i := 1) rfl)
theorem qw_338 : Cond.static yJ11_highSurrogate_5068e ∈ wsL_law := wlm_15 _ (List.mem_of_getElem? (i := 2) rfl)
theorem qw_339 : Cond.code yJ11_highSurrogate_5068e cJ11_highSurrogate_5068e 1 (some .char) ∈ wsL_law := wlm_15 _ (List.mem_of_getElem? (i := 3) rfl)
theorem qw_340 : Cond.constant RJ11 110 (55232) ∈ wsL_law := wlm_15 _ (List.mem_of_getElem? (i := 4) rfl)
theorem qw_341 : Cond.methodLink RJ2 161 yJ11_lowSurrogate_5068e ∈ wsL_law := wlm_15 _ (List.mem_of_getElem? (i := 5) rfl)
theorem qw_342 : Cond.static yJ11_lowSurrogate_5068e ∈ wsL_law := wlm_15 _ (List.mem_of_getElem? (i := 6) rfl)
theorem qw_343 : Cond.code yJ11_lowSurrogate_5068e cJ11_lowSurrogate_5068e 1 (some .char) ∈ wsL_law := wlm_15 _ (List.mem_of_getElem? (i := 7) rfl)
theorem qw_344 : Cond.constant RJ11 76 (56320) ∈ wsL_law := wlm_15 _ (List.mem_of_getElem? (i := 8) rfl)
theorem qw_345 : Cond.methodLink RX0 100 yX0_clausesOf ∈ wsL_law := wlm_15 _ (List.mem_of_getElem? (i := 9) rfl)
theorem qw_346 : Cond.instanceMethod yX0_clausesOf ∈ wsL_law := wlm_15 _ (List.mem_of_getElem? (i := 10) rfl)
theorem qw_347 : Cond.selects RX0 yX0_clausesOf yX0_clausesOf ∈ wsL_law := wlm_15 _ (List.mem_of_getElem? (i := 11) rfl)
theorem qw_348 : Cond.code yX0_clausesOf cX0_clausesOf 2 (some .int) ∈ wsL_law := wlm_15 _ (List.mem_of_getElem? (i := 12) rfl)
theorem qw_349 : Cond.methodLink RX0 109 yX0_readItems ∈ wsL_law := wlm_15 _ (List.mem_of_getElem? (i := 13) rfl)
theorem qw_350 : Cond.instanceMethod yX0_readItems ∈ wsL_law := wlm_15 _ (List.mem_of_getElem? (i := 14) rfl)
theorem qw_351 : Cond.selects RX0 yX0_readItems yX0_readItems ∈ wsL_law := wlm_15 _ (List.mem_of_getElem? (i := 15) rfl)
theorem qw_352 : Cond.code yX0_readItems cX0_readItems 8 (some .boolean) ∈ wsL_law := wlm_15 _ (List.mem_of_getElem? (i := 16) rfl)
theorem qw_353 : Cond.methodLink RX0 117 yX0_itemOf ∈ wsL_law := wlm_15 _ (List.mem_of_getElem? (i := 17) rfl)
theorem qw_354 : Cond.static yX0_itemOf ∈ wsL_law := wlm_15 _ (List.mem_of_getElem? (i := 18) rfl)
theorem qw_355 : Cond.code yX0_itemOf cX0_itemOf 4 (some .int) ∈ wsL_law := wlm_15 _ (List.mem_of_getElem? (i := 19) rfl)
theorem qw_356 : Cond.methodLink RX0 125 yJ0_charAt_5068e ∈ wsL_law := wlm_15 _ (List.mem_of_getElem? (i := 20) rfl)
theorem qw_357 : Cond.instanceMethod yJ0_charAt_5068e ∈ wsL_law := wlm_15 _ (List.mem_of_getElem? (i := 21) rfl)
theorem qw_358 : Cond.selects RJ0 yJ0_charAt_5068e yJ0_charAt_5068e ∈ wsL_law := wlm_15 _ (List.mem_of_getElem? (i := 22) rfl)
theorem qw_359 : Cond.code yJ0_charAt_5068e cJ0_charAt_5068e 2 (some .char) ∈ wsL_law := wlm_15 _ (List.mem_of_getElem? (i := 23) rfl)
theorem qw_360 : Cond.methodLink RJ0 495 yJ1_charAt_3b067 ∈ wsL_law := wlm_16 _ (List.mem_of_getElem? (i := 0) rfl)
theorem qw_361 : Cond.static yJ1_charAt_3b067 ∈ wsL_law := wlm_16 _ (List.mem_of_getElem? (i := 1) rfl)
theorem qw_362 : Cond.code yJ1_charAt_3b067 cJ1_charAt_3b067 2 (some .char) ∈ wsL_law := wlm_16 _ (List.mem_of_getElem? (i := 2) rfl)
theorem qw_363 : Cond.methodLink RJ1 9 yJ0_checkIndex_df160 ∈ wsL_law := wlm_16 _ (List.mem_of_getElem? (i := 3) rfl)
theorem qw_364 : Cond.static yJ0_checkIndex_df160 ∈ wsL_law := wlm_16 _ (List.mem_of_getElem? (i := 4) rfl)
theorem qw_365 : Cond.code yJ0_checkIndex_df160 cJ0_checkIndex_df160 2 none ∈ wsL_law := wlm_16 _ (List.mem_of_getElem? (i := 5) rfl)
theorem qw_366 : Cond.methodLink RJ0 1059 yJ3_checkIndex_8e157 ∈ wsL_law := wlm_16 _ (List.mem_of_getElem? (i := 6) rfl)
theorem qw_367 : Cond.static yJ3_checkIndex_8e157 ∈ wsL_law := wlm_16 _ (List.mem_of_getElem? (i := 7) rfl)
theorem qw_368 : Cond.code yJ3_checkIndex_8e157 cJ3_checkIndex_8e157 3 (some .int) ∈ wsL_law := wlm_16 _ (List.mem_of_getElem? (i := 8) rfl)
theorem qw_369 : Cond.methodLink RJ0 498 yJ2_charAt_3b067 ∈ wsL_law := wlm_16 _ (List.mem_of_getElem? (i := 9) rfl)
theorem qw_370 : Cond.static yJ2_charAt_3b067 ∈ wsL_law := wlm_16 _ (List.mem_of_getElem? (i := 10) rfl)
theorem qw_371 : Cond.code yJ2_charAt_3b067 cJ2_charAt_3b067 2 (some .char) ∈ wsL_law := wlm_16 _ (List.mem_of_getElem? (i := 11) rfl)
theorem qw_372 : Cond.methodLink RJ2 67 yJ2_checkIndex_2214a ∈ wsL_law := wlm_16 _ (List.mem_of_getElem? (i := 12) rfl)
theorem qw_373 : Cond.static yJ2_checkIndex_2214a ∈ wsL_law := wlm_16 _ (List.mem_of_getElem? (i := 13) rfl)
theorem qw_374 : Cond.code yJ2_checkIndex_2214a cJ2_checkIndex_2214a 2 none ∈ wsL_law := wlm_16 _ (List.mem_of_getElem? (i := 14) rfl)
theorem qw_375 : Cond.methodLink RJ2 414 yJ0_checkIndex_df160 ∈ wsL_law := wlm_16 _ (List.mem_of_getElem? (i := 15) rfl)
theorem qw_376 : Cond.methodLink RX0 121 yX0_readNumber ∈ wsL_law := wlm_16 _ (List.mem_of_getElem? (i := 16) rfl)
theorem qw_377 : Cond.instanceMethod yX0_readNumber ∈ wsL_law := wlm_16 _ (List.mem_of_getElem? (i := 17) rfl)
theorem qw_378 : Cond.selects RX0 yX0_readNumber yX0_readNumber ∈ wsL_law := wlm_16 _ (List.mem_of_getElem? (i := 18) rfl)
theorem qw_379 : Cond.code yX0_readNumber cX0_readNumber 4 (some .boolean) ∈ wsL_law := wlm_16 _ (List.mem_of_getElem? (i := 19) rfl)
theorem qw_380 : Cond.fieldLink RX0 135 "RoadWheels$County" "LEAST" "[I" ∈ wsL_law := wlm_16 _ (List.mem_of_getElem? (i := 20) rfl)
theorem qw_381 : Cond.fieldLink RX0 138 "RoadWheels$County" "MOST" "[I" ∈ wsL_law := wlm_16 _ (List.mem_of_getElem? (i := 21) rfl)
theorem qw_382 : Cond.methodLink RX0 129 yX9_isDigit ∈ wsL_law := wlm_16 _ (List.mem_of_getElem? (i := 22) rfl)
theorem qw_383 : Cond.static yX9_isDigit ∈ wsL_law := wlm_16 _ (List.mem_of_getElem? (i := 23) rfl)
theorem qw_384 : Cond.code yX9_isDigit cX9_isDigit 1 (some .boolean) ∈ wsL_law := wlm_17 _ (List.mem_of_getElem? (i := 0) rfl)
theorem qw_385 : Cond.methodLink RX0 132 yX9_number ∈ wsL_law := wlm_17 _ (List.mem_of_getElem? (i := 1) rfl)
theorem qw_386 : Cond.instanceMethod yX9_number ∈ wsL_law := wlm_17 _ (List.mem_of_getElem? (i := 2) rfl)
theorem qw_387 : Cond.selects RX9 yX9_number yX9_number ∈ wsL_law := wlm_17 _ (List.mem_of_getElem? (i := 3) rfl)
theorem qw_388 : Cond.code yX9_number cX9_number 4 (some .int) ∈ wsL_law := wlm_17 _ (List.mem_of_getElem? (i := 4) rfl)
theorem qw_389 : Cond.methodLink RX0 113 yX0_keepClause ∈ wsL_law := wlm_17 _ (List.mem_of_getElem? (i := 5) rfl)
theorem qw_390 : Cond.instanceMethod yX0_keepClause ∈ wsL_law := wlm_17 _ (List.mem_of_getElem? (i := 6) rfl)
theorem qw_391 : Cond.selects RX0 yX0_keepClause yX0_keepClause ∈ wsL_law := wlm_17 _ (List.mem_of_getElem? (i := 7) rfl)
theorem qw_392 : Cond.code yX0_keepClause cX0_keepClause 2 none ∈ wsL_law := wlm_17 _ (List.mem_of_getElem? (i := 8) rfl)
theorem qw_393 : Cond.methodLink RX0 87 yX0_isWhole ∈ wsL_law := wlm_17 _ (List.mem_of_getElem? (i := 9) rfl)
theorem qw_394 : Cond.instanceMethod yX0_isWhole ∈ wsL_law := wlm_17 _ (List.mem_of_getElem? (i := 10) rfl)
theorem qw_395 : Cond.selects RX0 yX0_isWhole yX0_isWhole ∈ wsL_law := wlm_17 _ (List.mem_of_getElem? (i := 11) rfl)
theorem qw_396 : Cond.code yX0_isWhole cX0_isWhole 2 (some .boolean) ∈ wsL_law := wlm_17 _ (List.mem_of_getElem? (i := 12) rfl)
theorem qw_397 : Cond.methodLink RX0 141 yX0_hasPlaces ∈ wsL_law := wlm_17 _ (List.mem_of_getElem? (i := 13) rfl)
theorem qw_398 : Cond.instanceMethod yX0_hasPlaces ∈ wsL_law := wlm_17 _ (List.mem_of_getElem? (i := 14) rfl)
theorem qw_399 : Cond.selects RX0 yX0_hasPlaces yX0_hasPlaces ∈ wsL_law := wlm_17 _ (List.mem_of_getElem? (i := 15) rfl)
theorem qw_400 : Cond.code yX0_hasPlaces cX0_hasPlaces 3 (some .boolean) ∈ wsL_law := wlm_17 _ (List.mem_of_getElem? (i := 16) rfl)
theorem qw_401 : Cond.methodLink RX0 44 yX0_hasPlace ∈ wsL_law := wlm_17 _ (List.mem_of_getElem? (i := 17) rfl)
theorem qw_402 : Cond.instanceMethod yX0_hasPlace ∈ wsL_law := wlm_17 _ (List.mem_of_getElem? (i := 18) rfl)
theorem qw_403 : Cond.selects RX0 yX0_hasPlace yX0_hasPlace ∈ wsL_law := wlm_17 _ (List.mem_of_getElem? (i := 19) rfl)
theorem qw_404 : Cond.code yX0_hasPlace cX0_hasPlace 2 (some .boolean) ∈ wsL_law := wlm_17 _ (List.mem_of_getElem? (i := 20) rfl)
theorem qw_405 : Cond.methodLink RX0 91 yX9_takes ∈ wsL_law := wlm_17 _ (List.mem_of_getElem? (i := 21) rfl)
theorem qw_406 : Cond.instanceMethod yX9_takes ∈ wsL_law := wlm_17 _ (List.mem_of_getElem? (i := 22) rfl)
theorem qw_407 : Cond.selects RX9 yX9_takes yX9_takes ∈ wsL_law := wlm_17 _ (List.mem_of_getElem? (i := 23) rfl)
theorem qw_408 : Cond.code yX9_takes cX9_takes 2 (some .boolean) ∈ wsL_law := wlm_18 _ (List.mem_of_getElem? (i := 0) rfl)
theorem qw_409 : Cond.methodLink RX9 22 yX9_sign ∈ wsL_law := wlm_18 _ (List.mem_of_getElem? (i := 1) rfl)
theorem qw_410 : Cond.methodLink RX11 132 yX3_readLaw ∈ wsL_law := wlm_18 _ (List.mem_of_getElem? (i := 2) rfl)
theorem qw_411 : Cond.instanceMethod yX3_readLaw ∈ wsL_law := wlm_18 _ (List.mem_of_getElem? (i := 3) rfl)
theorem qw_412 : Cond.selects RX3 yX3_readLaw yX3_readLaw ∈ wsL_law := wlm_18 _ (List.mem_of_getElem? (i := 4) rfl)
theorem qw_413 : Cond.code yX3_readLaw cX3_readLaw 2 (some .boolean) ∈ wsL_law := wlm_18 _ (List.mem_of_getElem? (i := 5) rfl)
theorem qw_414 : Cond.fieldLink RX3 25 "RoadWheels$LawReader" "size" "I" ∈ wsL_law := wlm_18 _ (List.mem_of_getElem? (i := 6) rfl)
theorem qw_415 : Cond.methodLink RX3 28 yX3_readClause ∈ wsL_law := wlm_18 _ (List.mem_of_getElem? (i := 7) rfl)
theorem qw_416 : Cond.instanceMethod yX3_readClause ∈ wsL_law := wlm_18 _ (List.mem_of_getElem? (i := 8) rfl)
theorem qw_417 : Cond.selects RX3 yX3_readClause yX3_readClause ∈ wsL_law := wlm_18 _ (List.mem_of_getElem? (i := 9) rfl)
theorem qw_418 : Cond.code yX3_readClause cX3_readClause 2 (some .boolean) ∈ wsL_law := wlm_18 _ (List.mem_of_getElem? (i := 10) rfl)
theorem qw_419 : Cond.methodLink RX3 36 yX9_takes ∈ wsL_law := wlm_18 _ (List.mem_of_getElem? (i := 11) rfl)
theorem qw_420 : Cond.methodLink RX3 32 yX9_sign ∈ wsL_law := wlm_18 _ (List.mem_of_getElem? (i := 12) rfl)
theorem qw_421 : Cond.methodLink RX3 40 yX3_readCondition ∈ wsL_law := wlm_18 _ (List.mem_of_getElem? (i := 13) rfl)
theorem qw_422 : Cond.instanceMethod yX3_readCondition ∈ wsL_law := wlm_18 _ (List.mem_of_getElem? (i := 14) rfl)
theorem qw_423 : Cond.selects RX3 yX3_readCondition yX3_readCondition ∈ wsL_law := wlm_18 _ (List.mem_of_getElem? (i := 15) rfl)
theorem qw_424 : Cond.code yX3_readCondition cX3_readCondition 2 (some .boolean) ∈ wsL_law := wlm_18 _ (List.mem_of_getElem? (i := 16) rfl)
theorem qw_425 : Cond.methodLink RX3 63 yX3_readUnit ∈ wsL_law := wlm_18 _ (List.mem_of_getElem? (i := 17) rfl)
theorem qw_426 : Cond.instanceMethod yX3_readUnit ∈ wsL_law := wlm_18 _ (List.mem_of_getElem? (i := 18) rfl)
theorem qw_427 : Cond.selects RX3 yX3_readUnit yX3_readUnit ∈ wsL_law := wlm_18 _ (List.mem_of_getElem? (i := 19) rfl)
theorem qw_428 : Cond.methodLink RX3 60 yX3_goOnCondition ∈ wsL_law := wlm_18 _ (List.mem_of_getElem? (i := 20) rfl)
theorem qw_429 : Cond.instanceMethod yX3_goOnCondition ∈ wsL_law := wlm_18 _ (List.mem_of_getElem? (i := 21) rfl)
theorem qw_430 : Cond.selects RX3 yX3_goOnCondition yX3_goOnCondition ∈ wsL_law := wlm_18 _ (List.mem_of_getElem? (i := 22) rfl)
theorem qw_431 : Cond.code yX3_goOnCondition cX3_goOnCondition 3 (some .boolean) ∈ wsL_law := wlm_18 _ (List.mem_of_getElem? (i := 23) rfl)
theorem qw_432 : Cond.methodLink RX3 66 yX3_goOnTruth ∈ wsL_law := wlm_19 _ (List.mem_of_getElem? (i := 0) rfl)
theorem qw_433 : Cond.instanceMethod yX3_goOnTruth ∈ wsL_law := wlm_19 _ (List.mem_of_getElem? (i := 1) rfl)
theorem qw_434 : Cond.selects RX3 yX3_goOnTruth yX3_goOnTruth ∈ wsL_law := wlm_19 _ (List.mem_of_getElem? (i := 2) rfl)
theorem qw_435 : Cond.methodLink RX3 54 yX3_emit ∈ wsL_law := wlm_19 _ (List.mem_of_getElem? (i := 3) rfl)
theorem qw_436 : Cond.instanceMethod yX3_emit ∈ wsL_law := wlm_19 _ (List.mem_of_getElem? (i := 4) rfl)
theorem qw_437 : Cond.selects RX3 yX3_emit yX3_emit ∈ wsL_law := wlm_19 _ (List.mem_of_getElem? (i := 5) rfl)
theorem qw_438 : Cond.code yX3_emit cX3_emit 2 (some .boolean) ∈ wsL_law := wlm_19 _ (List.mem_of_getElem? (i := 6) rfl)
theorem qw_439 : Cond.code yX3_goOnTruth cX3_goOnTruth 3 (some .boolean) ∈ wsL_law := wlm_19 _ (List.mem_of_getElem? (i := 7) rfl)
theorem qw_440 : Cond.code yX3_readUnit cX3_readUnit 3 (some .boolean) ∈ wsL_law := wlm_19 _ (List.mem_of_getElem? (i := 8) rfl)
theorem qw_441 : Cond.methodLink RX3 46 yX3_readSum ∈ wsL_law := wlm_19 _ (List.mem_of_getElem? (i := 9) rfl)
theorem qw_442 : Cond.instanceMethod yX3_readSum ∈ wsL_law := wlm_19 _ (List.mem_of_getElem? (i := 10) rfl)
theorem qw_443 : Cond.selects RX3 yX3_readSum yX3_readSum ∈ wsL_law := wlm_19 _ (List.mem_of_getElem? (i := 11) rfl)
theorem qw_444 : Cond.code yX3_readSum cX3_readSum 4 (some .boolean) ∈ wsL_law := wlm_19 _ (List.mem_of_getElem? (i := 12) rfl)
theorem qw_445 : Cond.methodLink RX3 69 yX3_readTerm ∈ wsL_law := wlm_19 _ (List.mem_of_getElem? (i := 13) rfl)
theorem qw_446 : Cond.instanceMethod yX3_readTerm ∈ wsL_law := wlm_19 _ (List.mem_of_getElem? (i := 14) rfl)
theorem qw_447 : Cond.selects RX3 yX3_readTerm yX3_readTerm ∈ wsL_law := wlm_19 _ (List.mem_of_getElem? (i := 15) rfl)
theorem qw_448 : Cond.code yX3_readAtom cX3_readAtom 4 (some .boolean) ∈ wsL_law := wlm_19 _ (List.mem_of_getElem? (i := 16) rfl)
theorem qw_449 : Cond.methodLink RX3 75 yX9_isDigit ∈ wsL_law := wlm_19 _ (List.mem_of_getElem? (i := 17) rfl)
theorem qw_450 : Cond.methodLink RX3 78 yX9_number ∈ wsL_law := wlm_19 _ (List.mem_of_getElem? (i := 18) rfl)
theorem qw_451 : Cond.methodLink RX3 84 yJ0_indexOf_0f7a4 ∈ wsL_law := wlm_19 _ (List.mem_of_getElem? (i := 19) rfl)
theorem qw_452 : Cond.code yX3_readTerm cX3_readTerm 4 (some .boolean) ∈ wsL_law := wlm_19 _ (List.mem_of_getElem? (i := 20) rfl)
theorem qw_453 : Cond.methodLink RX3 72 yX3_readAtom ∈ wsL_law := wlm_19 _ (List.mem_of_getElem? (i := 21) rfl)
theorem qw_454 : Cond.instanceMethod yX3_readAtom ∈ wsL_law := wlm_19 _ (List.mem_of_getElem? (i := 22) rfl)
theorem qw_455 : Cond.selects RX3 yX3_readAtom yX3_readAtom ∈ wsL_law := wlm_19 _ (List.mem_of_getElem? (i := 23) rfl)
theorem qw_456 : Cond.methodLink RX3 57 yX3_goOnComparison ∈ wsL_law := wlm_20 _ (List.mem_of_getElem? (i := 0) rfl)
theorem qw_457 : Cond.instanceMethod yX3_goOnComparison ∈ wsL_law := wlm_20 _ (List.mem_of_getElem? (i := 1) rfl)
theorem qw_458 : Cond.selects RX3 yX3_goOnComparison yX3_goOnComparison ∈ wsL_law := wlm_20 _ (List.mem_of_getElem? (i := 2) rfl)
theorem qw_459 : Cond.code yX3_goOnComparison cX3_goOnComparison 3 (some .boolean) ∈ wsL_law := wlm_20 _ (List.mem_of_getElem? (i := 3) rfl)
theorem qw_460 : Cond.methodLink RX3 49 yX3_isComparison ∈ wsL_law := wlm_20 _ (List.mem_of_getElem? (i := 4) rfl)
theorem qw_461 : Cond.static yX3_isComparison ∈ wsL_law := wlm_20 _ (List.mem_of_getElem? (i := 5) rfl)
theorem qw_462 : Cond.code yX3_isComparison cX3_isComparison 1 (some .boolean) ∈ wsL_law := wlm_20 _ (List.mem_of_getElem? (i := 6) rfl)
theorem qw_463 : Cond.methodLink RX3 43 yX3_readWorth ∈ wsL_law := wlm_20 _ (List.mem_of_getElem? (i := 7) rfl)
theorem qw_464 : Cond.instanceMethod yX3_readWorth ∈ wsL_law := wlm_20 _ (List.mem_of_getElem? (i := 8) rfl)
theorem qw_465 : Cond.selects RX3 yX3_readWorth yX3_readWorth ∈ wsL_law := wlm_20 _ (List.mem_of_getElem? (i := 9) rfl)
theorem qw_466 : Cond.code yX3_readWorth cX3_readWorth 1 (some .boolean) ∈ wsL_law := wlm_20 _ (List.mem_of_getElem? (i := 10) rfl)
theorem qw_467 : Cond.methodLink RX11 136 yX10_readFrom ∈ wsL_law := wlm_20 _ (List.mem_of_getElem? (i := 11) rfl)
theorem qw_468 : Cond.instanceMethod yX10_readFrom ∈ wsL_law := wlm_20 _ (List.mem_of_getElem? (i := 12) rfl)
theorem qw_469 : Cond.selects RX10 yX10_readFrom yX10_readFrom ∈ wsL_law := wlm_20 _ (List.mem_of_getElem? (i := 13) rfl)
theorem qw_470 : Cond.code yX10_readFrom cX10_readFrom 4 (some .boolean) ∈ wsL_law := wlm_20 _ (List.mem_of_getElem? (i := 14) rfl)
theorem qw_471 : Cond.fieldLink RX10 29 "RoadWheels$Ways" "readSize" "I" ∈ wsL_law := wlm_20 _ (List.mem_of_getElem? (i := 15) rfl)
theorem qw_472 : Cond.methodLink RX10 32 yX9_sign ∈ wsL_law := wlm_20 _ (List.mem_of_getElem? (i := 16) rfl)
theorem qw_473 : Cond.methodLink RX10 36 yX9_isDigit ∈ wsL_law := wlm_20 _ (List.mem_of_getElem? (i := 17) rfl)
theorem qw_474 : Cond.methodLink RL 33 yX12_fault ∈ wsL_law := wlm_20 _ (List.mem_of_getElem? (i := 18) rfl)
theorem qw_475 : Cond.instanceMethod yX12_fault ∈ wsL_law := wlm_20 _ (List.mem_of_getElem? (i := 19) rfl)
theorem qw_476 : Cond.selects RX12 yX12_fault yX12_fault ∈ wsL_law := wlm_20 _ (List.mem_of_getElem? (i := 20) rfl)
theorem qw_477 : Cond.code yX12_fault cX12_fault 2 (some .int) ∈ wsL_law := wlm_20 _ (List.mem_of_getElem? (i := 21) rfl)
theorem qw_478 : Cond.methodLink RX12 276 yX12_readCounty ∈ wsL_law := wlm_20 _ (List.mem_of_getElem? (i := 22) rfl)
theorem qw_479 : Cond.instanceMethod yX12_readCounty ∈ wsL_law := wlm_20 _ (List.mem_of_getElem? (i := 23) rfl)
theorem qw_480 : Cond.selects RX12 yX12_readCounty yX12_readCounty ∈ wsL_law := wlm_21 _ (List.mem_of_getElem? (i := 0) rfl)
theorem qw_481 : Cond.code yX12_readCounty cX12_readCounty 4 (some .int) ∈ wsL_law := wlm_21 _ (List.mem_of_getElem? (i := 1) rfl)
theorem qw_482 : Cond.fieldLink RX12 130 "RoadWheelsModel" "at" "I" ∈ wsL_law := wlm_21 _ (List.mem_of_getElem? (i := 2) rfl)
theorem qw_483 : Cond.fieldLink RX12 137 "RoadWheelsModel" "wrong" "I" ∈ wsL_law := wlm_21 _ (List.mem_of_getElem? (i := 3) rfl)
theorem qw_484 : Cond.fieldLink RX12 259 "RoadWheelsModel" "readPlaces" "I" ∈ wsL_law := wlm_21 _ (List.mem_of_getElem? (i := 4) rfl)
theorem qw_485 : Cond.fieldLink RX12 262 "RoadWheelsModel" "readRoads" "I" ∈ wsL_law := wlm_21 _ (List.mem_of_getElem? (i := 5) rfl)
theorem qw_486 : Cond.fieldLink RX12 265 "RoadWheelsModel" "readSets" "I" ∈ wsL_law := wlm_21 _ (List.mem_of_getElem? (i := 6) rfl)
theorem qw_487 : Cond.methodLink RX12 239 yX12_usual ∈ wsL_law := wlm_21 _ (List.mem_of_getElem? (i := 7) rfl)
theorem qw_488 : Cond.static yX12_usual ∈ wsL_law := wlm_21 _ (List.mem_of_getElem? (i := 8) rfl)
theorem qw_489 : Cond.code yX12_usual cX12_usual 2 (some .int) ∈ wsL_law := wlm_21 _ (List.mem_of_getElem? (i := 9) rfl)
theorem qw_490 : Cond.methodLink RX12 149 yX12_look ∈ wsL_law := wlm_21 _ (List.mem_of_getElem? (i := 10) rfl)
theorem qw_491 : Cond.instanceMethod yX12_look ∈ wsL_law := wlm_21 _ (List.mem_of_getElem? (i := 11) rfl)
theorem qw_492 : Cond.selects RX12 yX12_look yX12_look ∈ wsL_law := wlm_21 _ (List.mem_of_getElem? (i := 12) rfl)
theorem qw_493 : Cond.code yX12_look cX12_look 1 (some .int) ∈ wsL_law := wlm_21 _ (List.mem_of_getElem? (i := 13) rfl)
theorem qw_494 : Cond.methodLink RX12 133 yX12_here ∈ wsL_law := wlm_21 _ (List.mem_of_getElem? (i := 14) rfl)
theorem qw_495 : Cond.instanceMethod yX12_here ∈ wsL_law := wlm_21 _ (List.mem_of_getElem? (i := 15) rfl)
theorem qw_496 : Cond.selects RX12 yX12_here yX12_here ∈ wsL_law := wlm_21 _ (List.mem_of_getElem? (i := 16) rfl)
theorem qw_497 : Cond.code yX12_here cX12_here 1 (some .int) ∈ wsL_law := wlm_21 _ (List.mem_of_getElem? (i := 17) rfl)
theorem qw_498 : Cond.methodLink RX12 268 yX12_items ∈ wsL_law := wlm_21 _ (List.mem_of_getElem? (i := 18) rfl)
theorem qw_499 : Cond.instanceMethod yX12_items ∈ wsL_law := wlm_21 _ (List.mem_of_getElem? (i := 19) rfl)
theorem qw_500 : Cond.selects RX12 yX12_items yX12_items ∈ wsL_law := wlm_21 _ (List.mem_of_getElem? (i := 20) rfl)
theorem qw_501 : Cond.code yX12_items cX12_items 7 none ∈ wsL_law := wlm_21 _ (List.mem_of_getElem? (i := 21) rfl)
theorem qw_502 : Cond.methodLink RX12 243 yX12_itemOf ∈ wsL_law := wlm_21 _ (List.mem_of_getElem? (i := 22) rfl)
theorem qw_503 : Cond.static yX12_itemOf ∈ wsL_law := wlm_21 _ (List.mem_of_getElem? (i := 23) rfl)
theorem qw_504 : Cond.code yX12_itemOf cX12_itemOf 2 (some .int) ∈ wsL_law := wlm_22 _ (List.mem_of_getElem? (i := 0) rfl)
theorem qw_505 : Cond.methodLink RX12 246 yX12_has ∈ wsL_law := wlm_22 _ (List.mem_of_getElem? (i := 1) rfl)
theorem qw_506 : Cond.static yX12_has ∈ wsL_law := wlm_22 _ (List.mem_of_getElem? (i := 2) rfl)
theorem qw_507 : Cond.code yX12_has cX12_has 2 (some .boolean) ∈ wsL_law := wlm_22 _ (List.mem_of_getElem? (i := 3) rfl)
theorem qw_508 : Cond.methodLink RX12 250 yX12_lowest ∈ wsL_law := wlm_22 _ (List.mem_of_getElem? (i := 4) rfl)
theorem qw_509 : Cond.static yX12_lowest ∈ wsL_law := wlm_22 _ (List.mem_of_getElem? (i := 5) rfl)
theorem qw_510 : Cond.code yX12_lowest cX12_lowest 2 (some .int) ∈ wsL_law := wlm_22 _ (List.mem_of_getElem? (i := 6) rfl)
theorem qw_511 : Cond.methodLink RX12 253 yX12_highest ∈ wsL_law := wlm_22 _ (List.mem_of_getElem? (i := 7) rfl)
theorem qw_512 : Cond.static yX12_highest ∈ wsL_law := wlm_22 _ (List.mem_of_getElem? (i := 8) rfl)
theorem qw_513 : Cond.code yX12_highest cX12_highest 2 (some .int) ∈ wsL_law := wlm_22 _ (List.mem_of_getElem? (i := 9) rfl)
theorem qw_514 : Cond.methodLink RX12 256 yX12_number ∈ wsL_law := wlm_22 _ (List.mem_of_getElem? (i := 10) rfl)
theorem qw_515 : Cond.instanceMethod yX12_number ∈ wsL_law := wlm_22 _ (List.mem_of_getElem? (i := 11) rfl)
theorem qw_516 : Cond.selects RX12 yX12_number yX12_number ∈ wsL_law := wlm_22 _ (List.mem_of_getElem? (i := 12) rfl)
theorem qw_517 : Cond.code yX12_number cX12_number 4 (some .int) ∈ wsL_law := wlm_22 _ (List.mem_of_getElem? (i := 13) rfl)
theorem qw_518 : Cond.methodLink RX12 152 yX12_isDigit ∈ wsL_law := wlm_22 _ (List.mem_of_getElem? (i := 14) rfl)
theorem qw_519 : Cond.static yX12_isDigit ∈ wsL_law := wlm_22 _ (List.mem_of_getElem? (i := 15) rfl)
theorem qw_520 : Cond.code yX12_isDigit cX12_isDigit 1 (some .boolean) ∈ wsL_law := wlm_22 _ (List.mem_of_getElem? (i := 16) rfl)
theorem qw_521 : Cond.methodLink RX12 146 yX12_bad ∈ wsL_law := wlm_22 _ (List.mem_of_getElem? (i := 17) rfl)
theorem qw_522 : Cond.instanceMethod yX12_bad ∈ wsL_law := wlm_22 _ (List.mem_of_getElem? (i := 18) rfl)
theorem qw_523 : Cond.selects RX12 yX12_bad yX12_bad ∈ wsL_law := wlm_22 _ (List.mem_of_getElem? (i := 19) rfl)
theorem qw_524 : Cond.code yX12_bad cX12_bad 1 none ∈ wsL_law := wlm_22 _ (List.mem_of_getElem? (i := 20) rfl)
theorem qw_525 : Cond.methodLink RX12 235 yX12_in ∈ wsL_law := wlm_22 _ (List.mem_of_getElem? (i := 21) rfl)
theorem qw_526 : Cond.static yX12_in ∈ wsL_law := wlm_22 _ (List.mem_of_getElem? (i := 22) rfl)
theorem qw_527 : Cond.code yX12_in cX12_in 3 (some .boolean) ∈ wsL_law := wlm_22 _ (List.mem_of_getElem? (i := 23) rfl)
theorem qw_528 : Cond.methodLink RX12 272 yX12_isWhole ∈ wsL_law := wlm_23 _ (List.mem_of_getElem? (i := 0) rfl)
theorem qw_529 : Cond.instanceMethod yX12_isWhole ∈ wsL_law := wlm_23 _ (List.mem_of_getElem? (i := 1) rfl)
theorem qw_530 : Cond.selects RX12 yX12_isWhole yX12_isWhole ∈ wsL_law := wlm_23 _ (List.mem_of_getElem? (i := 2) rfl)
theorem qw_531 : Cond.code yX12_isWhole cX12_isWhole 5 (some .boolean) ∈ wsL_law := wlm_23 _ (List.mem_of_getElem? (i := 3) rfl)
theorem qw_532 : Cond.methodLink RX12 279 yX12_readLaw ∈ wsL_law := wlm_23 _ (List.mem_of_getElem? (i := 4) rfl)
theorem qw_533 : Cond.instanceMethod yX12_readLaw ∈ wsL_law := wlm_23 _ (List.mem_of_getElem? (i := 5) rfl)
theorem qw_534 : Cond.selects RX12 yX12_readLaw yX12_readLaw ∈ wsL_law := wlm_23 _ (List.mem_of_getElem? (i := 6) rfl)
theorem qw_535 : Cond.code yX12_readLaw cX12_readLaw 2 (some .int) ∈ wsL_law := wlm_23 _ (List.mem_of_getElem? (i := 7) rfl)
theorem qw_536 : Cond.methodLink RX12 201 yX12_open ∈ wsL_law := wlm_23 _ (List.mem_of_getElem? (i := 8) rfl)
theorem qw_537 : Cond.instanceMethod yX12_open ∈ wsL_law := wlm_23 _ (List.mem_of_getElem? (i := 9) rfl)
theorem qw_538 : Cond.selects RX12 yX12_open yX12_open ∈ wsL_law := wlm_23 _ (List.mem_of_getElem? (i := 10) rfl)
theorem qw_539 : Cond.code yX12_open cX12_open 2 none ∈ wsL_law := wlm_23 _ (List.mem_of_getElem? (i := 11) rfl)
theorem qw_540 : Cond.fieldLink RX12 140 "RoadWheelsModel" "text" "I" ∈ wsL_law := wlm_23 _ (List.mem_of_getElem? (i := 12) rfl)
theorem qw_541 : Cond.fieldLink RX12 143 "RoadWheelsModel" "deep" "I" ∈ wsL_law := wlm_23 _ (List.mem_of_getElem? (i := 13) rfl)
theorem qw_542 : Cond.methodLink RX12 204 yX12_clause ∈ wsL_law := wlm_23 _ (List.mem_of_getElem? (i := 14) rfl)
theorem qw_543 : Cond.instanceMethod yX12_clause ∈ wsL_law := wlm_23 _ (List.mem_of_getElem? (i := 15) rfl)
theorem qw_544 : Cond.selects RX12 yX12_clause yX12_clause ∈ wsL_law := wlm_23 _ (List.mem_of_getElem? (i := 16) rfl)
theorem qw_545 : Cond.code yX12_clause cX12_clause 3 none ∈ wsL_law := wlm_23 _ (List.mem_of_getElem? (i := 17) rfl)
theorem qw_546 : Cond.methodLink RX12 189 yX12_condition ∈ wsL_law := wlm_23 _ (List.mem_of_getElem? (i := 18) rfl)
theorem qw_547 : Cond.instanceMethod yX12_condition ∈ wsL_law := wlm_23 _ (List.mem_of_getElem? (i := 19) rfl)
theorem qw_548 : Cond.selects RX12 yX12_condition yX12_condition ∈ wsL_law := wlm_23 _ (List.mem_of_getElem? (i := 20) rfl)
theorem qw_549 : Cond.code yX12_condition cX12_condition 1 none ∈ wsL_law := wlm_23 _ (List.mem_of_getElem? (i := 21) rfl)
theorem qw_550 : Cond.methodLink RX12 186 yX12_unit ∈ wsL_law := wlm_23 _ (List.mem_of_getElem? (i := 22) rfl)
theorem qw_551 : Cond.instanceMethod yX12_unit ∈ wsL_law := wlm_23 _ (List.mem_of_getElem? (i := 23) rfl)
theorem qw_552 : Cond.selects RX12 yX12_unit yX12_unit ∈ wsL_law := wlm_24 _ (List.mem_of_getElem? (i := 0) rfl)
theorem qw_553 : Cond.methodLink RX12 195 yX12_goOnAnd ∈ wsL_law := wlm_24 _ (List.mem_of_getElem? (i := 1) rfl)
theorem qw_554 : Cond.instanceMethod yX12_goOnAnd ∈ wsL_law := wlm_24 _ (List.mem_of_getElem? (i := 2) rfl)
theorem qw_555 : Cond.selects RX12 yX12_goOnAnd yX12_goOnAnd ∈ wsL_law := wlm_24 _ (List.mem_of_getElem? (i := 3) rfl)
theorem qw_556 : Cond.methodLink RX12 198 yX12_goOnOr ∈ wsL_law := wlm_24 _ (List.mem_of_getElem? (i := 4) rfl)
theorem qw_557 : Cond.instanceMethod yX12_goOnOr ∈ wsL_law := wlm_24 _ (List.mem_of_getElem? (i := 5) rfl)
theorem qw_558 : Cond.selects RX12 yX12_goOnOr yX12_goOnOr ∈ wsL_law := wlm_24 _ (List.mem_of_getElem? (i := 6) rfl)
theorem qw_559 : Cond.code yX12_goOnAnd cX12_goOnAnd 1 none ∈ wsL_law := wlm_24 _ (List.mem_of_getElem? (i := 7) rfl)
theorem qw_560 : Cond.methodLink RX12 159 yX12_put ∈ wsL_law := wlm_24 _ (List.mem_of_getElem? (i := 8) rfl)
theorem qw_561 : Cond.instanceMethod yX12_put ∈ wsL_law := wlm_24 _ (List.mem_of_getElem? (i := 9) rfl)
theorem qw_562 : Cond.selects RX12 yX12_put yX12_put ∈ wsL_law := wlm_24 _ (List.mem_of_getElem? (i := 10) rfl)
theorem qw_563 : Cond.code yX12_put cX12_put 3 none ∈ wsL_law := wlm_24 _ (List.mem_of_getElem? (i := 11) rfl)
theorem qw_564 : Cond.code yX12_goOnOr cX12_goOnOr 1 none ∈ wsL_law := wlm_24 _ (List.mem_of_getElem? (i := 12) rfl)
theorem qw_565 : Cond.code yX12_unit cX12_unit 2 none ∈ wsL_law := wlm_24 _ (List.mem_of_getElem? (i := 13) rfl)
theorem qw_566 : Cond.methodLink RX12 167 yX12_opens ∈ wsL_law := wlm_24 _ (List.mem_of_getElem? (i := 14) rfl)
theorem qw_567 : Cond.instanceMethod yX12_opens ∈ wsL_law := wlm_24 _ (List.mem_of_getElem? (i := 15) rfl)
theorem qw_568 : Cond.selects RX12 yX12_opens yX12_opens ∈ wsL_law := wlm_24 _ (List.mem_of_getElem? (i := 16) rfl)
theorem qw_569 : Cond.code yX12_opens cX12_opens 1 none ∈ wsL_law := wlm_24 _ (List.mem_of_getElem? (i := 17) rfl)
theorem qw_570 : Cond.methodLink RX12 173 yX12_closes ∈ wsL_law := wlm_24 _ (List.mem_of_getElem? (i := 18) rfl)
theorem qw_571 : Cond.instanceMethod yX12_closes ∈ wsL_law := wlm_24 _ (List.mem_of_getElem? (i := 19) rfl)
theorem qw_572 : Cond.selects RX12 yX12_closes yX12_closes ∈ wsL_law := wlm_24 _ (List.mem_of_getElem? (i := 20) rfl)
theorem qw_573 : Cond.code yX12_closes cX12_closes 2 none ∈ wsL_law := wlm_24 _ (List.mem_of_getElem? (i := 21) rfl)
theorem qw_574 : Cond.methodLink RX12 170 yX12_sum ∈ wsL_law := wlm_24 _ (List.mem_of_getElem? (i := 22) rfl)
theorem qw_575 : Cond.instanceMethod yX12_sum ∈ wsL_law := wlm_24 _ (List.mem_of_getElem? (i := 23) rfl)
theorem qw_576 : Cond.selects RX12 yX12_sum yX12_sum ∈ wsL_law := wlm_25 _ (List.mem_of_getElem? (i := 0) rfl)
theorem qw_577 : Cond.code yX12_sum cX12_sum 2 none ∈ wsL_law := wlm_25 _ (List.mem_of_getElem? (i := 1) rfl)
theorem qw_578 : Cond.methodLink RX12 180 yX12_term ∈ wsL_law := wlm_25 _ (List.mem_of_getElem? (i := 2) rfl)
theorem qw_579 : Cond.instanceMethod yX12_term ∈ wsL_law := wlm_25 _ (List.mem_of_getElem? (i := 3) rfl)
theorem qw_580 : Cond.selects RX12 yX12_term yX12_term ∈ wsL_law := wlm_25 _ (List.mem_of_getElem? (i := 4) rfl)
theorem qw_581 : Cond.code yX12_atom cX12_atom 2 none ∈ wsL_law := wlm_25 _ (List.mem_of_getElem? (i := 5) rfl)
theorem qw_582 : Cond.methodLink RX12 156 yX12_plainNumber ∈ wsL_law := wlm_25 _ (List.mem_of_getElem? (i := 6) rfl)
theorem qw_583 : Cond.instanceMethod yX12_plainNumber ∈ wsL_law := wlm_25 _ (List.mem_of_getElem? (i := 7) rfl)
theorem qw_584 : Cond.selects RX12 yX12_plainNumber yX12_plainNumber ∈ wsL_law := wlm_25 _ (List.mem_of_getElem? (i := 8) rfl)
theorem qw_585 : Cond.code yX12_plainNumber cX12_plainNumber 3 (some .int) ∈ wsL_law := wlm_25 _ (List.mem_of_getElem? (i := 9) rfl)
theorem qw_586 : Cond.methodLink RX12 163 yX12_letterOf ∈ wsL_law := wlm_25 _ (List.mem_of_getElem? (i := 10) rfl)
theorem qw_587 : Cond.static yX12_letterOf ∈ wsL_law := wlm_25 _ (List.mem_of_getElem? (i := 11) rfl)
theorem qw_588 : Cond.code yX12_letterOf cX12_letterOf 1 (some .int) ∈ wsL_law := wlm_25 _ (List.mem_of_getElem? (i := 12) rfl)
theorem qw_589 : Cond.code yX12_term cX12_term 2 none ∈ wsL_law := wlm_25 _ (List.mem_of_getElem? (i := 13) rfl)
theorem qw_590 : Cond.methodLink RX12 177 yX12_atom ∈ wsL_law := wlm_25 _ (List.mem_of_getElem? (i := 14) rfl)
theorem qw_591 : Cond.instanceMethod yX12_atom ∈ wsL_law := wlm_25 _ (List.mem_of_getElem? (i := 15) rfl)
theorem qw_592 : Cond.selects RX12 yX12_atom yX12_atom ∈ wsL_law := wlm_25 _ (List.mem_of_getElem? (i := 16) rfl)
theorem qw_593 : Cond.methodLink RX12 192 yX12_compare ∈ wsL_law := wlm_25 _ (List.mem_of_getElem? (i := 17) rfl)
theorem qw_594 : Cond.instanceMethod yX12_compare ∈ wsL_law := wlm_25 _ (List.mem_of_getElem? (i := 18) rfl)
theorem qw_595 : Cond.selects RX12 yX12_compare yX12_compare ∈ wsL_law := wlm_25 _ (List.mem_of_getElem? (i := 19) rfl)
theorem qw_596 : Cond.code yX12_compare cX12_compare 2 none ∈ wsL_law := wlm_25 _ (List.mem_of_getElem? (i := 20) rfl)
theorem qw_597 : Cond.methodLink RX12 183 yX12_isSign ∈ wsL_law := wlm_25 _ (List.mem_of_getElem? (i := 21) rfl)
theorem qw_598 : Cond.static yX12_isSign ∈ wsL_law := wlm_25 _ (List.mem_of_getElem? (i := 22) rfl)
theorem qw_599 : Cond.code yX12_isSign cX12_isSign 1 (some .boolean) ∈ wsL_law := wlm_25 _ (List.mem_of_getElem? (i := 23) rfl)
theorem qw_600 : Cond.methodLink RX12 207 yX12_atEnd ∈ wsL_law := wlm_26 _ (List.mem_of_getElem? (i := 0) rfl)
theorem qw_601 : Cond.instanceMethod yX12_atEnd ∈ wsL_law := wlm_26 _ (List.mem_of_getElem? (i := 1) rfl)
theorem qw_602 : Cond.selects RX12 yX12_atEnd yX12_atEnd ∈ wsL_law := wlm_26 _ (List.mem_of_getElem? (i := 2) rfl)
theorem qw_603 : Cond.code yX12_atEnd cX12_atEnd 1 (some .int) ∈ wsL_law := wlm_26 _ (List.mem_of_getElem? (i := 3) rfl)
theorem qw_604 : Cond.methodLink RX12 282 yX12_readWay ∈ wsL_law := wlm_26 _ (List.mem_of_getElem? (i := 4) rfl)
theorem qw_605 : Cond.instanceMethod yX12_readWay ∈ wsL_law := wlm_26 _ (List.mem_of_getElem? (i := 5) rfl)
theorem qw_606 : Cond.selects RX12 yX12_readWay yX12_readWay ∈ wsL_law := wlm_26 _ (List.mem_of_getElem? (i := 6) rfl)
theorem qw_607 : Cond.code yX12_readWay cX12_readWay 2 (some .int) ∈ wsL_law := wlm_26 _ (List.mem_of_getElem? (i := 7) rfl)
theorem qw_608 : Cond.methodLink RL 34 yX11_text ∈ wsL_law := wlm_26 _ (List.mem_of_getElem? (i := 8) rfl)
theorem qw_609 : Cond.instanceMethod yX11_text ∈ wsL_law := wlm_26 _ (List.mem_of_getElem? (i := 9) rfl)
theorem qw_610 : Cond.selects RX11 yX11_text yX11_text ∈ wsL_law := wlm_26 _ (List.mem_of_getElem? (i := 10) rfl)
theorem qw_611 : Cond.code yX11_text cX11_text 2 (some .int) ∈ wsL_law := wlm_26 _ (List.mem_of_getElem? (i := 11) rfl)
theorem qw_612 : Cond.methodLink RX11 137 yX11_hasRoomFor ∈ wsL_law := wlm_26 _ (List.mem_of_getElem? (i := 12) rfl)
theorem qw_613 : Cond.instanceMethod yX11_hasRoomFor ∈ wsL_law := wlm_26 _ (List.mem_of_getElem? (i := 13) rfl)
theorem qw_614 : Cond.selects RX11 yX11_hasRoomFor yX11_hasRoomFor ∈ wsL_law := wlm_26 _ (List.mem_of_getElem? (i := 14) rfl)
theorem qw_615 : Cond.code yX11_hasRoomFor cX11_hasRoomFor 2 (some .boolean) ∈ wsL_law := wlm_26 _ (List.mem_of_getElem? (i := 15) rfl)
theorem qw_616 : Cond.methodLink RX11 144 yX4_keep ∈ wsL_law := wlm_26 _ (List.mem_of_getElem? (i := 16) rfl)
theorem qw_617 : Cond.instanceMethod yX4_keep ∈ wsL_law := wlm_26 _ (List.mem_of_getElem? (i := 17) rfl)
theorem qw_618 : Cond.selects RX4 yX4_keep yX4_keep ∈ wsL_law := wlm_26 _ (List.mem_of_getElem? (i := 18) rfl)
theorem qw_619 : Cond.code yX4_keep cX4_keep 3 (some .int) ∈ wsL_law := wlm_26 _ (List.mem_of_getElem? (i := 19) rfl)
theorem qw_620 : Cond.fieldLink RX4 27 "RoadWheels$Laws" "told" "I" ∈ wsL_law := wlm_26 _ (List.mem_of_getElem? (i := 20) rfl)
theorem qw_621 : Cond.methodLink RX4 30 arraycopyName ∈ wsL_law := wlm_26 _ (List.mem_of_getElem? (i := 21) rfl)
theorem qw_622 : Cond.native arraycopyName ∈ wsL_law := wlm_26 _ (List.mem_of_getElem? (i := 22) rfl)
theorem qw_623 : Cond.static arraycopyName ∈ wsL_law := wlm_26 _ (List.mem_of_getElem? (i := 23) rfl)
theorem qw_624 : Cond.initialized "java/lang/System" ∈ wsL_law := wlm_27 _ (List.mem_of_getElem? (i := 0) rfl)
theorem qw_625 : Cond.methodLink RX11 148 yX10_keep ∈ wsL_law := wlm_27 _ (List.mem_of_getElem? (i := 1) rfl)
theorem qw_626 : Cond.instanceMethod yX10_keep ∈ wsL_law := wlm_27 _ (List.mem_of_getElem? (i := 2) rfl)
theorem qw_627 : Cond.selects RX10 yX10_keep yX10_keep ∈ wsL_law := wlm_27 _ (List.mem_of_getElem? (i := 3) rfl)
theorem qw_628 : Cond.code yX10_keep cX10_keep 1 (some .int) ∈ wsL_law := wlm_27 _ (List.mem_of_getElem? (i := 4) rfl)
theorem qw_629 : Cond.fieldLink RX10 40 "RoadWheels$Ways" "told" "I" ∈ wsL_law := wlm_27 _ (List.mem_of_getElem? (i := 5) rfl)
theorem qw_630 : Cond.methodLink RX10 43 arraycopyName ∈ wsL_law := wlm_27 _ (List.mem_of_getElem? (i := 6) rfl)
theorem qw_631 : Cond.methodLink RX11 151 yX11_beginCounty ∈ wsL_law := wlm_27 _ (List.mem_of_getElem? (i := 7) rfl)
theorem qw_632 : Cond.instanceMethod yX11_beginCounty ∈ wsL_law := wlm_27 _ (List.mem_of_getElem? (i := 8) rfl)
theorem qw_633 : Cond.selects RX11 yX11_beginCounty yX11_beginCounty ∈ wsL_law := wlm_27 _ (List.mem_of_getElem? (i := 9) rfl)
theorem qw_634 : Cond.code yX11_beginCounty cX11_beginCounty 1 (some .int) ∈ wsL_law := wlm_27 _ (List.mem_of_getElem? (i := 10) rfl)
theorem qw_635 : Cond.methodLink RX11 158 yX0_copyFrom ∈ wsL_law := wlm_27 _ (List.mem_of_getElem? (i := 11) rfl)
theorem qw_636 : Cond.instanceMethod yX0_copyFrom ∈ wsL_law := wlm_27 _ (List.mem_of_getElem? (i := 12) rfl)
theorem qw_637 : Cond.selects RX0 yX0_copyFrom yX0_copyFrom ∈ wsL_law := wlm_27 _ (List.mem_of_getElem? (i := 13) rfl)
theorem qw_638 : Cond.code yX0_copyFrom cX0_copyFrom 2 none ∈ wsL_law := wlm_27 _ (List.mem_of_getElem? (i := 14) rfl)
theorem qw_639 : Cond.methodLink RX0 63 arraycopyName ∈ wsL_law := wlm_27 _ (List.mem_of_getElem? (i := 15) rfl)
theorem qw_640 : Cond.methodLink RX11 162 yX8_begin ∈ wsL_law := wlm_27 _ (List.mem_of_getElem? (i := 16) rfl)
theorem qw_641 : Cond.instanceMethod yX8_begin ∈ wsL_law := wlm_27 _ (List.mem_of_getElem? (i := 17) rfl)
theorem qw_642 : Cond.selects RX8 yX8_begin yX8_begin ∈ wsL_law := wlm_27 _ (List.mem_of_getElem? (i := 18) rfl)
theorem qw_643 : Cond.code yX8_begin cX8_begin 3 none ∈ wsL_law := wlm_27 _ (List.mem_of_getElem? (i := 19) rfl)
theorem qw_644 : Cond.fieldLink RX8 36 "RoadWheels$State" "closed" "I" ∈ wsL_law := wlm_27 _ (List.mem_of_getElem? (i := 20) rfl)
theorem qw_645 : Cond.fieldLink RX8 43 "RoadWheels$State" "coins" "I" ∈ wsL_law := wlm_27 _ (List.mem_of_getElem? (i := 21) rfl)
theorem qw_646 : Cond.fieldLink RX8 44 "RoadWheels$State" "day" "I" ∈ wsL_law := wlm_27 _ (List.mem_of_getElem? (i := 22) rfl)
theorem qw_647 : Cond.methodLink RX8 32 yX8_takeWay ∈ wsL_law := wlm_27 _ (List.mem_of_getElem? (i := 23) rfl)
theorem qw_648 : Cond.instanceMethod yX8_takeWay ∈ wsL_law := wlm_28 _ (List.mem_of_getElem? (i := 0) rfl)
theorem qw_649 : Cond.selects RX8 yX8_takeWay yX8_takeWay ∈ wsL_law := wlm_28 _ (List.mem_of_getElem? (i := 1) rfl)
theorem qw_650 : Cond.code yX8_takeWay cX8_takeWay 2 none ∈ wsL_law := wlm_28 _ (List.mem_of_getElem? (i := 2) rfl)
theorem qw_651 : Cond.methodLink RX11 165 yX6_forget ∈ wsL_law := wlm_28 _ (List.mem_of_getElem? (i := 3) rfl)
theorem qw_652 : Cond.instanceMethod yX6_forget ∈ wsL_law := wlm_28 _ (List.mem_of_getElem? (i := 4) rfl)
theorem qw_653 : Cond.selects RX6 yX6_forget yX6_forget ∈ wsL_law := wlm_28 _ (List.mem_of_getElem? (i := 5) rfl)
theorem qw_654 : Cond.code yX6_forget cX6_forget 1 none ∈ wsL_law := wlm_28 _ (List.mem_of_getElem? (i := 6) rfl)
theorem qw_655 : Cond.fieldLink RX6 29 "RoadWheels$Past" "acts" "I" ∈ wsL_law := wlm_28 _ (List.mem_of_getElem? (i := 7) rfl)
theorem qw_656 : Cond.fieldLink RX6 33 "RoadWheels$Past" "hasImage" "Z" ∈ wsL_law := wlm_28 _ (List.mem_of_getElem? (i := 8) rfl)
theorem qw_657 : Cond.methodLink RL 37 yX12_text ∈ wsL_law := wlm_28 _ (List.mem_of_getElem? (i := 9) rfl)
theorem qw_658 : Cond.instanceMethod yX12_text ∈ wsL_law := wlm_28 _ (List.mem_of_getElem? (i := 10) rfl)
theorem qw_659 : Cond.selects RX12 yX12_text yX12_text ∈ wsL_law := wlm_28 _ (List.mem_of_getElem? (i := 11) rfl)
theorem qw_660 : Cond.code yX12_text cX12_text 2 (some .int) ∈ wsL_law := wlm_28 _ (List.mem_of_getElem? (i := 12) rfl)
theorem qw_661 : Cond.fieldLink RX12 310 "RoadWheelsModel" "laws" "I" ∈ wsL_law := wlm_28 _ (List.mem_of_getElem? (i := 13) rfl)
theorem qw_662 : Cond.fieldLink RX12 313 "RoadWheelsModel" "wayMany" "I" ∈ wsL_law := wlm_28 _ (List.mem_of_getElem? (i := 14) rfl)
theorem qw_663 : Cond.methodLink RX12 307 yX12_takeCounty ∈ wsL_law := wlm_28 _ (List.mem_of_getElem? (i := 15) rfl)
theorem qw_664 : Cond.instanceMethod yX12_takeCounty ∈ wsL_law := wlm_28 _ (List.mem_of_getElem? (i := 16) rfl)
theorem qw_665 : Cond.selects RX12 yX12_takeCounty yX12_takeCounty ∈ wsL_law := wlm_28 _ (List.mem_of_getElem? (i := 17) rfl)
theorem qw_666 : Cond.code yX12_takeCounty cX12_takeCounty 2 (some .int) ∈ wsL_law := wlm_28 _ (List.mem_of_getElem? (i := 18) rfl)
theorem qw_667 : Cond.fieldLink RX12 288 "RoadWheelsModel" "places" "I" ∈ wsL_law := wlm_28 _ (List.mem_of_getElem? (i := 19) rfl)
theorem qw_668 : Cond.fieldLink RX12 291 "RoadWheelsModel" "roads" "I" ∈ wsL_law := wlm_28 _ (List.mem_of_getElem? (i := 20) rfl)
theorem qw_669 : Cond.fieldLink RX12 285 "RoadWheelsModel" "sets" "I" ∈ wsL_law := wlm_28 _ (List.mem_of_getElem? (i := 21) rfl)
theorem qw_670 : Cond.fieldLink RX12 297 "RoadWheelsModel" "noted" "I" ∈ wsL_law := wlm_28 _ (List.mem_of_getElem? (i := 22) rfl)
theorem qw_671 : Cond.fieldLink RX12 300 "RoadWheelsModel" "acts" "I" ∈ wsL_law := wlm_28 _ (List.mem_of_getElem? (i := 23) rfl)
theorem qw_672 : Cond.fieldLink RX12 303 "RoadWheelsModel" "hasImage" "Z" ∈ wsL_law := wlm_29 _ (List.mem_of_getElem? (i := 0) rfl)
theorem qw_673 : Cond.methodLink RX12 294 yX12_layTold ∈ wsL_law := wlm_29 _ (List.mem_of_getElem? (i := 1) rfl)
theorem qw_674 : Cond.instanceMethod yX12_layTold ∈ wsL_law := wlm_29 _ (List.mem_of_getElem? (i := 2) rfl)
theorem qw_675 : Cond.selects RX12 yX12_layTold yX12_layTold ∈ wsL_law := wlm_29 _ (List.mem_of_getElem? (i := 3) rfl)
theorem qw_676 : Cond.code yX12_layTold cX12_layTold 2 none ∈ wsL_law := wlm_29 _ (List.mem_of_getElem? (i := 4) rfl)
theorem qw_677 : Cond.methodLink RL 38 yX11_rule ∈ wsL_law := wlm_29 _ (List.mem_of_getElem? (i := 5) rfl)
theorem qw_678 : Cond.instanceMethod yX11_rule ∈ wsL_law := wlm_29 _ (List.mem_of_getElem? (i := 6) rfl)
theorem qw_679 : Cond.selects RX11 yX11_rule yX11_rule ∈ wsL_law := wlm_29 _ (List.mem_of_getElem? (i := 7) rfl)
theorem qw_680 : Cond.code yX11_rule cX11_rule 2 (some .int) ∈ wsL_law := wlm_29 _ (List.mem_of_getElem? (i := 8) rfl)
theorem qw_681 : Cond.methodLink RX11 172 yX0_isTold ∈ wsL_law := wlm_29 _ (List.mem_of_getElem? (i := 9) rfl)
theorem qw_682 : Cond.instanceMethod yX0_isTold ∈ wsL_law := wlm_29 _ (List.mem_of_getElem? (i := 10) rfl)
theorem qw_683 : Cond.selects RX0 yX0_isTold yX0_isTold ∈ wsL_law := wlm_29 _ (List.mem_of_getElem? (i := 11) rfl)
theorem qw_684 : Cond.code yX0_isTold cX0_isTold 1 (some .boolean) ∈ wsL_law := wlm_29 _ (List.mem_of_getElem? (i := 12) rfl)
theorem qw_685 : Cond.methodLink RL 41 yX12_rule ∈ wsL_law := wlm_29 _ (List.mem_of_getElem? (i := 13) rfl)
theorem qw_686 : Cond.instanceMethod yX12_rule ∈ wsL_law := wlm_29 _ (List.mem_of_getElem? (i := 14) rfl)
theorem qw_687 : Cond.selects RX12 yX12_rule yX12_rule ∈ wsL_law := wlm_29 _ (List.mem_of_getElem? (i := 15) rfl)
theorem qw_688 : Cond.code yX12_rule cX12_rule 2 (some .int) ∈ wsL_law := wlm_29 _ (List.mem_of_getElem? (i := 16) rfl)
theorem qw_689 : Cond.methodLink RL 42 yX11_road ∈ wsL_law := wlm_29 _ (List.mem_of_getElem? (i := 17) rfl)
theorem qw_690 : Cond.instanceMethod yX11_road ∈ wsL_law := wlm_29 _ (List.mem_of_getElem? (i := 18) rfl)
theorem qw_691 : Cond.selects RX11 yX11_road yX11_road ∈ wsL_law := wlm_29 _ (List.mem_of_getElem? (i := 19) rfl)
theorem qw_692 : Cond.code yX11_road cX11_road 3 (some .int) ∈ wsL_law := wlm_29 _ (List.mem_of_getElem? (i := 20) rfl)
theorem qw_693 : Cond.methodLink RX11 181 yX0_hasRoad ∈ wsL_law := wlm_29 _ (List.mem_of_getElem? (i := 21) rfl)
theorem qw_694 : Cond.instanceMethod yX0_hasRoad ∈ wsL_law := wlm_29 _ (List.mem_of_getElem? (i := 22) rfl)
theorem qw_695 : Cond.selects RX0 yX0_hasRoad yX0_hasRoad ∈ wsL_law := wlm_29 _ (List.mem_of_getElem? (i := 23) rfl)
theorem qw_696 : Cond.code yX0_hasRoad cX0_hasRoad 2 (some .boolean) ∈ wsL_law := wlm_30 _ (List.mem_of_getElem? (i := 0) rfl)
theorem qw_697 : Cond.methodLink RX11 196 yX1_measure ∈ wsL_law := wlm_30 _ (List.mem_of_getElem? (i := 1) rfl)
theorem qw_698 : Cond.instanceMethod yX1_measure ∈ wsL_law := wlm_30 _ (List.mem_of_getElem? (i := 2) rfl)
theorem qw_699 : Cond.selects RX1 yX1_measure yX1_measure ∈ wsL_law := wlm_30 _ (List.mem_of_getElem? (i := 3) rfl)
theorem qw_700 : Cond.code yX1_measure cX1_measure 4 none ∈ wsL_law := wlm_30 _ (List.mem_of_getElem? (i := 4) rfl)
theorem qw_701 : Cond.methodLink RX1 72 Lib.Math.min.name ∈ wsL_law := wlm_30 _ (List.mem_of_getElem? (i := 5) rfl)
theorem qw_702 : Cond.methodLink RX1 78 Lib.Math.max.name ∈ wsL_law := wlm_30 _ (List.mem_of_getElem? (i := 6) rfl)
theorem qw_703 : Cond.methodLink RX1 40 yX4_oneHolds ∈ wsL_law := wlm_30 _ (List.mem_of_getElem? (i := 7) rfl)
theorem qw_704 : Cond.instanceMethod yX4_oneHolds ∈ wsL_law := wlm_30 _ (List.mem_of_getElem? (i := 8) rfl)
theorem qw_705 : Cond.selects RX4 yX4_oneHolds yX4_oneHolds ∈ wsL_law := wlm_30 _ (List.mem_of_getElem? (i := 9) rfl)
theorem qw_706 : Cond.code yX4_oneHolds cX4_oneHolds 1 (some .boolean) ∈ wsL_law := wlm_30 _ (List.mem_of_getElem? (i := 10) rfl)
theorem qw_707 : Cond.methodLink RX1 50 yJ6_bitCount_0f7a4 ∈ wsL_law := wlm_30 _ (List.mem_of_getElem? (i := 11) rfl)
theorem qw_708 : Cond.static yJ6_bitCount_0f7a4 ∈ wsL_law := wlm_30 _ (List.mem_of_getElem? (i := 12) rfl)
theorem qw_709 : Cond.initialized RJ6 ∈ wsL_law := wlm_30 _ (List.mem_of_getElem? (i := 13) rfl)
theorem qw_710 : Cond.code yJ6_bitCount_0f7a4 cJ6_bitCount_0f7a4 1 (some .int) ∈ wsL_law := wlm_30 _ (List.mem_of_getElem? (i := 14) rfl)
theorem qw_711 : Cond.constant RJ6 265 (1431655765) ∈ wsL_law := wlm_30 _ (List.mem_of_getElem? (i := 15) rfl)
theorem qw_712 : Cond.constant RJ6 266 (858993459) ∈ wsL_law := wlm_30 _ (List.mem_of_getElem? (i := 16) rfl)
theorem qw_713 : Cond.constant RJ6 267 (252645135) ∈ wsL_law := wlm_30 _ (List.mem_of_getElem? (i := 17) rfl)
theorem qw_714 : Cond.methodLink RX1 64 yX1_tellLetters ∈ wsL_law := wlm_30 _ (List.mem_of_getElem? (i := 18) rfl)
theorem qw_715 : Cond.instanceMethod yX1_tellLetters ∈ wsL_law := wlm_30 _ (List.mem_of_getElem? (i := 19) rfl)
theorem qw_716 : Cond.selects RX1 yX1_tellLetters yX1_tellLetters ∈ wsL_law := wlm_30 _ (List.mem_of_getElem? (i := 20) rfl)
theorem qw_717 : Cond.code yX1_tellLetters cX1_tellLetters 3 none ∈ wsL_law := wlm_30 _ (List.mem_of_getElem? (i := 21) rfl)
theorem qw_718 : Cond.methodLink RX1 68 yX4_worth ∈ wsL_law := wlm_30 _ (List.mem_of_getElem? (i := 22) rfl)
theorem qw_719 : Cond.instanceMethod yX4_worth ∈ wsL_law := wlm_30 _ (List.mem_of_getElem? (i := 23) rfl)
theorem qw_720 : Cond.selects RX4 yX4_worth yX4_worth ∈ wsL_law := wlm_31 _ (List.mem_of_getElem? (i := 0) rfl)
theorem qw_721 : Cond.code yX4_worth cX4_worth 7 (some .int) ∈ wsL_law := wlm_31 _ (List.mem_of_getElem? (i := 1) rfl)
theorem qw_722 : Cond.fieldLink RX4 40 "RoadWheels$Laws" "height" "I" ∈ wsL_law := wlm_31 _ (List.mem_of_getElem? (i := 2) rfl)
theorem qw_723 : Cond.methodLink RX4 36 yX4_oneHolds ∈ wsL_law := wlm_31 _ (List.mem_of_getElem? (i := 3) rfl)
theorem qw_724 : Cond.methodLink RX4 43 yX4_push ∈ wsL_law := wlm_31 _ (List.mem_of_getElem? (i := 4) rfl)
theorem qw_725 : Cond.instanceMethod yX4_push ∈ wsL_law := wlm_31 _ (List.mem_of_getElem? (i := 5) rfl)
theorem qw_726 : Cond.selects RX4 yX4_push yX4_push ∈ wsL_law := wlm_31 _ (List.mem_of_getElem? (i := 6) rfl)
theorem qw_727 : Cond.code yX4_push cX4_push 2 none ∈ wsL_law := wlm_31 _ (List.mem_of_getElem? (i := 7) rfl)
theorem qw_728 : Cond.methodLink RX4 47 yX4_pop ∈ wsL_law := wlm_31 _ (List.mem_of_getElem? (i := 8) rfl)
theorem qw_729 : Cond.instanceMethod yX4_pop ∈ wsL_law := wlm_31 _ (List.mem_of_getElem? (i := 9) rfl)
theorem qw_730 : Cond.selects RX4 yX4_pop yX4_pop ∈ wsL_law := wlm_31 _ (List.mem_of_getElem? (i := 10) rfl)
theorem qw_731 : Cond.code yX4_pop cX4_pop 1 (some .int) ∈ wsL_law := wlm_31 _ (List.mem_of_getElem? (i := 11) rfl)
theorem qw_732 : Cond.methodLink RX4 51 yX4_join ∈ wsL_law := wlm_31 _ (List.mem_of_getElem? (i := 12) rfl)
theorem qw_733 : Cond.static yX4_join ∈ wsL_law := wlm_31 _ (List.mem_of_getElem? (i := 13) rfl)
theorem qw_734 : Cond.code yX4_join cX4_join 3 (some .int) ∈ wsL_law := wlm_31 _ (List.mem_of_getElem? (i := 14) rfl)
theorem qw_735 : Cond.methodLink RX4 55 yX4_hold ∈ wsL_law := wlm_31 _ (List.mem_of_getElem? (i := 15) rfl)
theorem qw_736 : Cond.static yX4_hold ∈ wsL_law := wlm_31 _ (List.mem_of_getElem? (i := 16) rfl)
theorem qw_737 : Cond.code yX4_hold cX4_hold 2 (some .int) ∈ wsL_law := wlm_31 _ (List.mem_of_getElem? (i := 17) rfl)
theorem qw_738 : Cond.constantLong RX4 59 (1000000) ∈ wsL_law := wlm_31 _ (List.mem_of_getElem? (i := 18) rfl)
theorem qw_739 : Cond.constant RX4 61 (1000000) ∈ wsL_law := wlm_31 _ (List.mem_of_getElem? (i := 19) rfl)
theorem qw_740 : Cond.constantLong RX4 62 (-1000000) ∈ wsL_law := wlm_31 _ (List.mem_of_getElem? (i := 20) rfl)
theorem qw_741 : Cond.constant RX4 64 (-1000000) ∈ wsL_law := wlm_31 _ (List.mem_of_getElem? (i := 21) rfl)
theorem qw_742 : Cond.methodLink RL 45 yX12_road ∈ wsL_law := wlm_31 _ (List.mem_of_getElem? (i := 22) rfl)
theorem qw_743 : Cond.instanceMethod yX12_road ∈ wsL_law := wlm_31 _ (List.mem_of_getElem? (i := 23) rfl)
theorem qw_744 : Cond.selects RX12 yX12_road yX12_road ∈ wsL_law := wlm_32 _ (List.mem_of_getElem? (i := 0) rfl)
theorem qw_745 : Cond.code yX12_road cX12_road 3 (some .int) ∈ wsL_law := wlm_32 _ (List.mem_of_getElem? (i := 1) rfl)
theorem qw_746 : Cond.methodLink RX12 367 yX12_isRoad ∈ wsL_law := wlm_32 _ (List.mem_of_getElem? (i := 2) rfl)
theorem qw_747 : Cond.instanceMethod yX12_isRoad ∈ wsL_law := wlm_32 _ (List.mem_of_getElem? (i := 3) rfl)
theorem qw_748 : Cond.selects RX12 yX12_isRoad yX12_isRoad ∈ wsL_law := wlm_32 _ (List.mem_of_getElem? (i := 4) rfl)
theorem qw_749 : Cond.code yX12_isRoad cX12_isRoad 2 (some .boolean) ∈ wsL_law := wlm_32 _ (List.mem_of_getElem? (i := 5) rfl)
theorem qw_750 : Cond.methodLink RX12 331 yX12_longBy ∈ wsL_law := wlm_32 _ (List.mem_of_getElem? (i := 6) rfl)
theorem qw_751 : Cond.instanceMethod yX12_longBy ∈ wsL_law := wlm_32 _ (List.mem_of_getElem? (i := 7) rfl)
theorem qw_752 : Cond.selects RX12 yX12_longBy yX12_longBy ∈ wsL_law := wlm_32 _ (List.mem_of_getElem? (i := 8) rfl)
theorem qw_753 : Cond.code yX12_longBy cX12_longBy 3 (some .int) ∈ wsL_law := wlm_32 _ (List.mem_of_getElem? (i := 9) rfl)
theorem qw_754 : Cond.methodLink RX12 327 Lib.Math.min.name ∈ wsL_law := wlm_32 _ (List.mem_of_getElem? (i := 10) rfl)
theorem qw_755 : Cond.methodLink RX12 329 Lib.Math.max.name ∈ wsL_law := wlm_32 _ (List.mem_of_getElem? (i := 11) rfl)
theorem qw_756 : Cond.methodLink RX12 316 yX12_of ∈ wsL_law := wlm_32 _ (List.mem_of_getElem? (i := 12) rfl)
theorem qw_757 : Cond.instanceMethod yX12_of ∈ wsL_law := wlm_32 _ (List.mem_of_getElem? (i := 13) rfl)
theorem qw_758 : Cond.selects RX12 yX12_of yX12_of ∈ wsL_law := wlm_32 _ (List.mem_of_getElem? (i := 14) rfl)
theorem qw_759 : Cond.code yX12_of cX12_of 3 (some .int) ∈ wsL_law := wlm_32 _ (List.mem_of_getElem? (i := 15) rfl)
theorem qw_760 : Cond.methodLink RX12 319 yJ6_bitCount_0f7a4 ∈ wsL_law := wlm_32 _ (List.mem_of_getElem? (i := 16) rfl)
theorem qw_761 : Cond.methodLink RX12 324 yX12_worthOf ∈ wsL_law := wlm_32 _ (List.mem_of_getElem? (i := 17) rfl)
theorem qw_762 : Cond.instanceMethod yX12_worthOf ∈ wsL_law := wlm_32 _ (List.mem_of_getElem? (i := 18) rfl)
theorem qw_763 : Cond.selects RX12 yX12_worthOf yX12_worthOf ∈ wsL_law := wlm_32 _ (List.mem_of_getElem? (i := 19) rfl)
theorem qw_764 : Cond.code yX12_worthOf cX12_worthOf 3 (some .int) ∈ wsL_law := wlm_32 _ (List.mem_of_getElem? (i := 20) rfl)
theorem qw_765 : Cond.methodLink RX12 231 yX12_workOut ∈ wsL_law := wlm_32 _ (List.mem_of_getElem? (i := 21) rfl)
theorem qw_766 : Cond.instanceMethod yX12_workOut ∈ wsL_law := wlm_32 _ (List.mem_of_getElem? (i := 22) rfl)
theorem qw_767 : Cond.selects RX12 yX12_workOut yX12_workOut ∈ wsL_law := wlm_32 _ (List.mem_of_getElem? (i := 23) rfl)
theorem qw_768 : Cond.code yX12_workOut cX12_workOut 6 (some .int) ∈ wsL_law := wlm_33 _ (List.mem_of_getElem? (i := 0) rfl)
theorem qw_769 : Cond.methodLink RX12 227 yX12_worked ∈ wsL_law := wlm_33 _ (List.mem_of_getElem? (i := 1) rfl)
theorem qw_770 : Cond.static yX12_worked ∈ wsL_law := wlm_33 _ (List.mem_of_getElem? (i := 2) rfl)
theorem qw_771 : Cond.code yX12_worked cX12_worked 5 (some .int) ∈ wsL_law := wlm_33 _ (List.mem_of_getElem? (i := 3) rfl)
theorem qw_772 : Cond.methodLink RX12 223 yX12_bounded ∈ wsL_law := wlm_33 _ (List.mem_of_getElem? (i := 4) rfl)
theorem qw_773 : Cond.static yX12_bounded ∈ wsL_law := wlm_33 _ (List.mem_of_getElem? (i := 5) rfl)
theorem qw_774 : Cond.code yX12_bounded cX12_bounded 2 (some .int) ∈ wsL_law := wlm_33 _ (List.mem_of_getElem? (i := 6) rfl)
theorem qw_775 : Cond.constantLong RX12 210 (-1000000) ∈ wsL_law := wlm_33 _ (List.mem_of_getElem? (i := 7) rfl)
theorem qw_776 : Cond.constantLong RX12 212 (1000000) ∈ wsL_law := wlm_33 _ (List.mem_of_getElem? (i := 8) rfl)
theorem qw_777 : Cond.methodLink RX12 214 Lib.MathLoose.min_long.x ∈ wsL_law := wlm_33 _ (List.mem_of_getElem? (i := 9) rfl)
theorem qw_778 : Cond.static Lib.MathLoose.min_long.x ∈ wsL_law := wlm_33 _ (List.mem_of_getElem? (i := 10) rfl)
theorem qw_779 : Cond.code Lib.MathLoose.min_long.x Lib.MathLoose.min_long.code 4 (some .long) ∈ wsL_law := wlm_33 _ (List.mem_of_getElem? (i := 11) rfl)
theorem qw_780 : Cond.methodLink RX12 220 Lib.MathLoose.max_long.x ∈ wsL_law := wlm_33 _ (List.mem_of_getElem? (i := 12) rfl)
theorem qw_781 : Cond.static Lib.MathLoose.max_long.x ∈ wsL_law := wlm_33 _ (List.mem_of_getElem? (i := 13) rfl)
theorem qw_782 : Cond.code Lib.MathLoose.max_long.x Lib.MathLoose.max_long.code 4 (some .long) ∈ wsL_law := wlm_33 _ (List.mem_of_getElem? (i := 14) rfl)
theorem qw_783 : Cond.methodLink RX12 334 yX12_isClosed ∈ wsL_law := wlm_33 _ (List.mem_of_getElem? (i := 15) rfl)
theorem qw_784 : Cond.instanceMethod yX12_isClosed ∈ wsL_law := wlm_33 _ (List.mem_of_getElem? (i := 16) rfl)
theorem qw_785 : Cond.selects RX12 yX12_isClosed yX12_isClosed ∈ wsL_law := wlm_33 _ (List.mem_of_getElem? (i := 17) rfl)
theorem qw_786 : Cond.code yX12_isClosed cX12_isClosed 2 (some .boolean) ∈ wsL_law := wlm_33 _ (List.mem_of_getElem? (i := 18) rfl)
theorem qw_787 : Cond.methodLink RL 46 yL_wheels ∈ wsL_law := wlm_33 _ (List.mem_of_getElem? (i := 19) rfl)
theorem qw_788 : Cond.static yL_wheels ∈ wsL_law := wlm_33 _ (List.mem_of_getElem? (i := 20) rfl)
theorem qw_789 : Cond.initialized RL ∈ wsL_law := wlm_33 _ (List.mem_of_getElem? (i := 21) rfl)
theorem qw_790 : Cond.codeWith yL_wheels cL_wheels 5 (some .int) [(0, 10, 13, 13)] ∈ wsL_law := wlm_33 _ (List.mem_of_getElem? (i := 22) rfl)
theorem qw_791 : Cond.classLink RL 13 "java/util/NoSuchElementException" ∈ wsL_law := wlm_33 _ (List.mem_of_getElem? (i := 23) rfl)
theorem qw_792 : Cond.methodLink RL 7 yX11_wheels ∈ wsL_law := wlm_34 _ (List.mem_of_getElem? (i := 0) rfl)
theorem qw_793 : Cond.instanceMethod yX11_wheels ∈ wsL_law := wlm_34 _ (List.mem_of_getElem? (i := 1) rfl)
theorem qw_794 : Cond.selects RX11 yX11_wheels yX11_wheels ∈ wsL_law := wlm_34 _ (List.mem_of_getElem? (i := 2) rfl)
theorem qw_795 : Cond.code yX11_wheels cX11_wheels 3 (some .int) ∈ wsL_law := wlm_34 _ (List.mem_of_getElem? (i := 3) rfl)
theorem qw_796 : Cond.classLink RX11 212 "java/util/NoSuchElementException" ∈ wsL_law := wlm_34 _ (List.mem_of_getElem? (i := 4) rfl)
theorem qw_797 : Cond.initialized "java/util/NoSuchElementException" ∈ wsL_law := wlm_34 _ (List.mem_of_getElem? (i := 5) rfl)
theorem qw_798 : Cond.methodLink RX11 209 yX0_hasSet ∈ wsL_law := wlm_34 _ (List.mem_of_getElem? (i := 6) rfl)
theorem qw_799 : Cond.instanceMethod yX0_hasSet ∈ wsL_law := wlm_34 _ (List.mem_of_getElem? (i := 7) rfl)
theorem qw_800 : Cond.selects RX0 yX0_hasSet yX0_hasSet ∈ wsL_law := wlm_34 _ (List.mem_of_getElem? (i := 8) rfl)
theorem qw_801 : Cond.code yX0_hasSet cX0_hasSet 2 (some .boolean) ∈ wsL_law := wlm_34 _ (List.mem_of_getElem? (i := 9) rfl)
theorem qw_802 : Cond.methodLink RL 51 yX12_wheels ∈ wsL_law := wlm_34 _ (List.mem_of_getElem? (i := 10) rfl)
theorem qw_803 : Cond.instanceMethod yX12_wheels ∈ wsL_law := wlm_34 _ (List.mem_of_getElem? (i := 11) rfl)
theorem qw_804 : Cond.selects RX12 yX12_wheels yX12_wheels ∈ wsL_law := wlm_34 _ (List.mem_of_getElem? (i := 12) rfl)
theorem qw_805 : Cond.code yX12_wheels cX12_wheels 3 (some .int) ∈ wsL_law := wlm_34 _ (List.mem_of_getElem? (i := 13) rfl)
theorem qw_806 : Cond.fieldLink RX12 120 "RoadWheelsModel" "thrown" "I" ∈ wsL_law := wlm_34 _ (List.mem_of_getElem? (i := 14) rfl)
theorem qw_807 : Cond.methodLink RX12 370 yX12_isSet ∈ wsL_law := wlm_34 _ (List.mem_of_getElem? (i := 15) rfl)
theorem qw_808 : Cond.instanceMethod yX12_isSet ∈ wsL_law := wlm_34 _ (List.mem_of_getElem? (i := 16) rfl)
theorem qw_809 : Cond.selects RX12 yX12_isSet yX12_isSet ∈ wsL_law := wlm_34 _ (List.mem_of_getElem? (i := 17) rfl)
theorem qw_810 : Cond.code yX12_isSet cX12_isSet 2 (some .boolean) ∈ wsL_law := wlm_34 _ (List.mem_of_getElem? (i := 18) rfl)
theorem qw_811 : Cond.methodLink RL 52 yX12_thrown ∈ wsL_law := wlm_34 _ (List.mem_of_getElem? (i := 19) rfl)
theorem qw_812 : Cond.instanceMethod yX12_thrown ∈ wsL_law := wlm_34 _ (List.mem_of_getElem? (i := 20) rfl)
theorem qw_813 : Cond.selects RX12 yX12_thrown yX12_thrown ∈ wsL_law := wlm_34 _ (List.mem_of_getElem? (i := 21) rfl)
theorem qw_814 : Cond.code yX12_thrown cX12_thrown 1 (some .int) ∈ wsL_law := wlm_34 _ (List.mem_of_getElem? (i := 22) rfl)
theorem qw_815 : Cond.methodLink RL 56 yX11_spot ∈ wsL_law := wlm_34 _ (List.mem_of_getElem? (i := 23) rfl)
theorem qw_816 : Cond.instanceMethod yX11_spot ∈ wsL_law := wlm_35 _ (List.mem_of_getElem? (i := 0) rfl)
theorem qw_817 : Cond.selects RX11 yX11_spot yX11_spot ∈ wsL_law := wlm_35 _ (List.mem_of_getElem? (i := 1) rfl)
theorem qw_818 : Cond.code yX11_spot cX11_spot 3 (some .int) ∈ wsL_law := wlm_35 _ (List.mem_of_getElem? (i := 2) rfl)
theorem qw_819 : Cond.methodLink RX11 224 yX0_hasPlace ∈ wsL_law := wlm_35 _ (List.mem_of_getElem? (i := 3) rfl)
theorem qw_820 : Cond.methodLink RL 59 yX12_spot ∈ wsL_law := wlm_35 _ (List.mem_of_getElem? (i := 4) rfl)
theorem qw_821 : Cond.instanceMethod yX12_spot ∈ wsL_law := wlm_35 _ (List.mem_of_getElem? (i := 5) rfl)
theorem qw_822 : Cond.selects RX12 yX12_spot yX12_spot ∈ wsL_law := wlm_35 _ (List.mem_of_getElem? (i := 6) rfl)
theorem qw_823 : Cond.code yX12_spot cX12_spot 3 (some .int) ∈ wsL_law := wlm_35 _ (List.mem_of_getElem? (i := 7) rfl)
theorem qw_824 : Cond.methodLink RX12 373 yX12_isPlace ∈ wsL_law := wlm_35 _ (List.mem_of_getElem? (i := 8) rfl)
theorem qw_825 : Cond.instanceMethod yX12_isPlace ∈ wsL_law := wlm_35 _ (List.mem_of_getElem? (i := 9) rfl)
theorem qw_826 : Cond.selects RX12 yX12_isPlace yX12_isPlace ∈ wsL_law := wlm_35 _ (List.mem_of_getElem? (i := 10) rfl)
theorem qw_827 : Cond.code yX12_isPlace cX12_isPlace 2 (some .boolean) ∈ wsL_law := wlm_35 _ (List.mem_of_getElem? (i := 11) rfl)
theorem qw_828 : Cond.methodLink RL 60 yX11_law ∈ wsL_law := wlm_35 _ (List.mem_of_getElem? (i := 12) rfl)
theorem qw_829 : Cond.instanceMethod yX11_law ∈ wsL_law := wlm_35 _ (List.mem_of_getElem? (i := 13) rfl)
theorem qw_830 : Cond.selects RX11 yX11_law yX11_law ∈ wsL_law := wlm_35 _ (List.mem_of_getElem? (i := 14) rfl)
theorem qw_831 : Cond.code yX11_law cX11_law 2 (some .boolean) ∈ wsL_law := wlm_35 _ (List.mem_of_getElem? (i := 15) rfl)
theorem qw_832 : Cond.methodLink RL 63 yX12_law ∈ wsL_law := wlm_35 _ (List.mem_of_getElem? (i := 16) rfl)
theorem qw_833 : Cond.instanceMethod yX12_law ∈ wsL_law := wlm_35 _ (List.mem_of_getElem? (i := 17) rfl)
theorem qw_834 : Cond.selects RX12 yX12_law yX12_law ∈ wsL_law := wlm_35 _ (List.mem_of_getElem? (i := 18) rfl)
theorem qw_835 : Cond.code yX12_law cX12_law 2 (some .boolean) ∈ wsL_law := wlm_35 _ (List.mem_of_getElem? (i := 19) rfl)
theorem qw_836 : Cond.methodLink RL 64 yX11_walked ∈ wsL_law := wlm_35 _ (List.mem_of_getElem? (i := 20) rfl)
theorem qw_837 : Cond.instanceMethod yX11_walked ∈ wsL_law := wlm_35 _ (List.mem_of_getElem? (i := 21) rfl)
theorem qw_838 : Cond.selects RX11 yX11_walked yX11_walked ∈ wsL_law := wlm_35 _ (List.mem_of_getElem? (i := 22) rfl)
theorem qw_839 : Cond.code yX11_walked cX11_walked 3 (some .int) ∈ wsL_law := wlm_35 _ (List.mem_of_getElem? (i := 23) rfl)
theorem qw_840 : Cond.methodLink RX11 236 yX10_has ∈ wsL_law := wlm_36 _ (List.mem_of_getElem? (i := 0) rfl)
theorem qw_841 : Cond.instanceMethod yX10_has ∈ wsL_law := wlm_36 _ (List.mem_of_getElem? (i := 1) rfl)
theorem qw_842 : Cond.selects RX10 yX10_has yX10_has ∈ wsL_law := wlm_36 _ (List.mem_of_getElem? (i := 2) rfl)
theorem qw_843 : Cond.code yX10_has cX10_has 2 (some .boolean) ∈ wsL_law := wlm_36 _ (List.mem_of_getElem? (i := 3) rfl)
theorem qw_844 : Cond.methodLink RX11 242 yX10_placeAt ∈ wsL_law := wlm_36 _ (List.mem_of_getElem? (i := 4) rfl)
theorem qw_845 : Cond.instanceMethod yX10_placeAt ∈ wsL_law := wlm_36 _ (List.mem_of_getElem? (i := 5) rfl)
theorem qw_846 : Cond.selects RX10 yX10_placeAt yX10_placeAt ∈ wsL_law := wlm_36 _ (List.mem_of_getElem? (i := 6) rfl)
theorem qw_847 : Cond.code yX10_placeAt cX10_placeAt 3 (some .int) ∈ wsL_law := wlm_36 _ (List.mem_of_getElem? (i := 7) rfl)
theorem qw_848 : Cond.methodLink RX10 49 yX10_has ∈ wsL_law := wlm_36 _ (List.mem_of_getElem? (i := 8) rfl)
theorem qw_849 : Cond.methodLink RL 67 yX12_walked ∈ wsL_law := wlm_36 _ (List.mem_of_getElem? (i := 9) rfl)
theorem qw_850 : Cond.instanceMethod yX12_walked ∈ wsL_law := wlm_36 _ (List.mem_of_getElem? (i := 10) rfl)
theorem qw_851 : Cond.selects RX12 yX12_walked yX12_walked ∈ wsL_law := wlm_36 _ (List.mem_of_getElem? (i := 11) rfl)
theorem qw_852 : Cond.code yX12_walked cX12_walked 3 (some .int) ∈ wsL_law := wlm_36 _ (List.mem_of_getElem? (i := 12) rfl)
theorem qw_853 : Cond.methodLink RX12 376 yX12_isWay ∈ wsL_law := wlm_36 _ (List.mem_of_getElem? (i := 13) rfl)
theorem qw_854 : Cond.instanceMethod yX12_isWay ∈ wsL_law := wlm_36 _ (List.mem_of_getElem? (i := 14) rfl)
theorem qw_855 : Cond.selects RX12 yX12_isWay yX12_isWay ∈ wsL_law := wlm_36 _ (List.mem_of_getElem? (i := 15) rfl)
theorem qw_856 : Cond.code yX12_isWay cX12_isWay 2 (some .boolean) ∈ wsL_law := wlm_36 _ (List.mem_of_getElem? (i := 16) rfl)
theorem qw_857 : Cond.methodLink RL 68 yX11_days ∈ wsL_law := wlm_36 _ (List.mem_of_getElem? (i := 17) rfl)
theorem qw_858 : Cond.instanceMethod yX11_days ∈ wsL_law := wlm_36 _ (List.mem_of_getElem? (i := 18) rfl)
theorem qw_859 : Cond.selects RX11 yX11_days yX11_days ∈ wsL_law := wlm_36 _ (List.mem_of_getElem? (i := 19) rfl)
theorem qw_860 : Cond.code yX11_days cX11_days 3 (some .int) ∈ wsL_law := wlm_36 _ (List.mem_of_getElem? (i := 20) rfl)
theorem qw_861 : Cond.methodLink RX11 246 yX11_refuse ∈ wsL_law := wlm_36 _ (List.mem_of_getElem? (i := 21) rfl)
theorem qw_862 : Cond.instanceMethod yX11_refuse ∈ wsL_law := wlm_36 _ (List.mem_of_getElem? (i := 22) rfl)
theorem qw_863 : Cond.selects RX11 yX11_refuse yX11_refuse ∈ wsL_law := wlm_36 _ (List.mem_of_getElem? (i := 23) rfl)
theorem qw_864 : Cond.code yX11_refuse cX11_refuse 2 (some .int) ∈ wsL_law := wlm_37 _ (List.mem_of_getElem? (i := 0) rfl)
theorem qw_865 : Cond.methodLink RX11 252 yX6_remember ∈ wsL_law := wlm_37 _ (List.mem_of_getElem? (i := 1) rfl)
theorem qw_866 : Cond.instanceMethod yX6_remember ∈ wsL_law := wlm_37 _ (List.mem_of_getElem? (i := 2) rfl)
theorem qw_867 : Cond.selects RX6 yX6_remember yX6_remember ∈ wsL_law := wlm_37 _ (List.mem_of_getElem? (i := 3) rfl)
theorem qw_868 : Cond.code yX6_remember cX6_remember 2 none ∈ wsL_law := wlm_37 _ (List.mem_of_getElem? (i := 4) rfl)
theorem qw_869 : Cond.fieldLink RX6 37 "RoadWheels$Past" "next" "I" ∈ wsL_law := wlm_37 _ (List.mem_of_getElem? (i := 5) rfl)
theorem qw_870 : Cond.methodLink RX6 44 Lib.Math.min.name ∈ wsL_law := wlm_37 _ (List.mem_of_getElem? (i := 6) rfl)
theorem qw_871 : Cond.methodLink RX6 40 yX8_copyFrom ∈ wsL_law := wlm_37 _ (List.mem_of_getElem? (i := 7) rfl)
theorem qw_872 : Cond.instanceMethod yX8_copyFrom ∈ wsL_law := wlm_37 _ (List.mem_of_getElem? (i := 8) rfl)
theorem qw_873 : Cond.selects RX8 yX8_copyFrom yX8_copyFrom ∈ wsL_law := wlm_37 _ (List.mem_of_getElem? (i := 9) rfl)
theorem qw_874 : Cond.code yX8_copyFrom cX8_copyFrom 2 none ∈ wsL_law := wlm_37 _ (List.mem_of_getElem? (i := 10) rfl)
theorem qw_875 : Cond.methodLink RX8 47 arraycopyName ∈ wsL_law := wlm_37 _ (List.mem_of_getElem? (i := 11) rfl)
theorem qw_876 : Cond.methodLink RX11 255 yX11_passDay ∈ wsL_law := wlm_37 _ (List.mem_of_getElem? (i := 12) rfl)
theorem qw_877 : Cond.instanceMethod yX11_passDay ∈ wsL_law := wlm_37 _ (List.mem_of_getElem? (i := 13) rfl)
theorem qw_878 : Cond.selects RX11 yX11_passDay yX11_passDay ∈ wsL_law := wlm_37 _ (List.mem_of_getElem? (i := 14) rfl)
theorem qw_879 : Cond.code yX11_passDay cX11_passDay 2 none ∈ wsL_law := wlm_37 _ (List.mem_of_getElem? (i := 15) rfl)
theorem qw_880 : Cond.methodLink RX11 258 yX1_pass ∈ wsL_law := wlm_37 _ (List.mem_of_getElem? (i := 16) rfl)
theorem qw_881 : Cond.instanceMethod yX1_pass ∈ wsL_law := wlm_37 _ (List.mem_of_getElem? (i := 17) rfl)
theorem qw_882 : Cond.selects RX1 yX1_pass yX1_pass ∈ wsL_law := wlm_37 _ (List.mem_of_getElem? (i := 18) rfl)
theorem qw_883 : Cond.code yX1_pass cX1_pass 4 (some .int) ∈ wsL_law := wlm_37 _ (List.mem_of_getElem? (i := 19) rfl)
theorem qw_884 : Cond.methodLink RX1 98 yX1_measure ∈ wsL_law := wlm_37 _ (List.mem_of_getElem? (i := 20) rfl)
theorem qw_885 : Cond.methodLink RX1 105 yX1_passOf ∈ wsL_law := wlm_37 _ (List.mem_of_getElem? (i := 21) rfl)
theorem qw_886 : Cond.instanceMethod yX1_passOf ∈ wsL_law := wlm_37 _ (List.mem_of_getElem? (i := 22) rfl)
theorem qw_887 : Cond.selects RX1 yX1_passOf yX1_passOf ∈ wsL_law := wlm_37 _ (List.mem_of_getElem? (i := 23) rfl)
theorem qw_888 : Cond.code yX1_passOf cX1_passOf 9 (some .int) ∈ wsL_law := wlm_38 _ (List.mem_of_getElem? (i := 0) rfl)
theorem qw_889 : Cond.methodLink RX1 112 yX10_has ∈ wsL_law := wlm_38 _ (List.mem_of_getElem? (i := 1) rfl)
theorem qw_890 : Cond.methodLink RX1 124 yX10_placeAt ∈ wsL_law := wlm_38 _ (List.mem_of_getElem? (i := 2) rfl)
theorem qw_891 : Cond.methodLink RX1 130 yX1_shortestBetween ∈ wsL_law := wlm_38 _ (List.mem_of_getElem? (i := 3) rfl)
theorem qw_892 : Cond.instanceMethod yX1_shortestBetween ∈ wsL_law := wlm_38 _ (List.mem_of_getElem? (i := 4) rfl)
theorem qw_893 : Cond.selects RX1 yX1_shortestBetween yX1_shortestBetween ∈ wsL_law := wlm_38 _ (List.mem_of_getElem? (i := 5) rfl)
theorem qw_894 : Cond.code yX1_shortestBetween cX1_shortestBetween 7 (some .int) ∈ wsL_law := wlm_38 _ (List.mem_of_getElem? (i := 6) rfl)
theorem qw_895 : Cond.methodLink RX1 144 yX0_isBetween ∈ wsL_law := wlm_38 _ (List.mem_of_getElem? (i := 7) rfl)
theorem qw_896 : Cond.instanceMethod yX0_isBetween ∈ wsL_law := wlm_38 _ (List.mem_of_getElem? (i := 8) rfl)
theorem qw_897 : Cond.selects RX0 yX0_isBetween yX0_isBetween ∈ wsL_law := wlm_38 _ (List.mem_of_getElem? (i := 9) rfl)
theorem qw_898 : Cond.code yX0_isBetween cX0_isBetween 4 (some .boolean) ∈ wsL_law := wlm_38 _ (List.mem_of_getElem? (i := 10) rfl)
theorem qw_899 : Cond.methodLink RX1 137 yX1_callAt ∈ wsL_law := wlm_38 _ (List.mem_of_getElem? (i := 11) rfl)
theorem qw_900 : Cond.instanceMethod yX1_callAt ∈ wsL_law := wlm_38 _ (List.mem_of_getElem? (i := 12) rfl)
theorem qw_901 : Cond.selects RX1 yX1_callAt yX1_callAt ∈ wsL_law := wlm_38 _ (List.mem_of_getElem? (i := 13) rfl)
theorem qw_902 : Cond.code yX1_callAt cX1_callAt 3 none ∈ wsL_law := wlm_38 _ (List.mem_of_getElem? (i := 14) rfl)
theorem qw_903 : Cond.methodLink RX1 148 yX0_hasPlace ∈ wsL_law := wlm_38 _ (List.mem_of_getElem? (i := 15) rfl)
theorem qw_904 : Cond.methodLink RX1 140 yX8_takeWay ∈ wsL_law := wlm_38 _ (List.mem_of_getElem? (i := 16) rfl)
theorem qw_905 : Cond.methodLink RX11 262 yX8_setsOnWay ∈ wsL_law := wlm_38 _ (List.mem_of_getElem? (i := 17) rfl)
theorem qw_906 : Cond.instanceMethod yX8_setsOnWay ∈ wsL_law := wlm_38 _ (List.mem_of_getElem? (i := 18) rfl)
theorem qw_907 : Cond.selects RX8 yX8_setsOnWay yX8_setsOnWay ∈ wsL_law := wlm_38 _ (List.mem_of_getElem? (i := 19) rfl)
theorem qw_908 : Cond.code yX8_setsOnWay cX8_setsOnWay 3 (some .int) ∈ wsL_law := wlm_38 _ (List.mem_of_getElem? (i := 20) rfl)
theorem qw_909 : Cond.methodLink RX11 265 yX6_note ∈ wsL_law := wlm_38 _ (List.mem_of_getElem? (i := 21) rfl)
theorem qw_910 : Cond.instanceMethod yX6_note ∈ wsL_law := wlm_38 _ (List.mem_of_getElem? (i := 22) rfl)
theorem qw_911 : Cond.selects RX6 yX6_note yX6_note ∈ wsL_law := wlm_38 _ (List.mem_of_getElem? (i := 23) rfl)
theorem qw_912 : Cond.code yX6_note cX6_note 6 none ∈ wsL_law := wlm_39 _ (List.mem_of_getElem? (i := 0) rfl)
theorem qw_913 : Cond.methodLink RX6 53 yX6_rowOf ∈ wsL_law := wlm_39 _ (List.mem_of_getElem? (i := 1) rfl)
theorem qw_914 : Cond.static yX6_rowOf ∈ wsL_law := wlm_39 _ (List.mem_of_getElem? (i := 2) rfl)
theorem qw_915 : Cond.code yX6_rowOf cX6_rowOf 1 (some .int) ∈ wsL_law := wlm_39 _ (List.mem_of_getElem? (i := 3) rfl)
theorem qw_916 : Cond.methodLink RX6 50 yJ9_floorMod_7cf53 ∈ wsL_law := wlm_39 _ (List.mem_of_getElem? (i := 4) rfl)
theorem qw_917 : Cond.static yJ9_floorMod_7cf53 ∈ wsL_law := wlm_39 _ (List.mem_of_getElem? (i := 5) rfl)
theorem qw_918 : Cond.initialized RJ9 ∈ wsL_law := wlm_39 _ (List.mem_of_getElem? (i := 6) rfl)
theorem qw_919 : Cond.code yJ9_floorMod_7cf53 cJ9_floorMod_7cf53 3 (some .int) ∈ wsL_law := wlm_39 _ (List.mem_of_getElem? (i := 7) rfl)
theorem qw_920 : Cond.methodLink RL 71 yX12_days ∈ wsL_law := wlm_39 _ (List.mem_of_getElem? (i := 8) rfl)
theorem qw_921 : Cond.instanceMethod yX12_days ∈ wsL_law := wlm_39 _ (List.mem_of_getElem? (i := 9) rfl)
theorem qw_922 : Cond.selects RX12 yX12_days yX12_days ∈ wsL_law := wlm_39 _ (List.mem_of_getElem? (i := 10) rfl)
theorem qw_923 : Cond.code yX12_days cX12_days 3 (some .int) ∈ wsL_law := wlm_39 _ (List.mem_of_getElem? (i := 11) rfl)
theorem qw_924 : Cond.methodLink RX12 379 yX12_areDays ∈ wsL_law := wlm_39 _ (List.mem_of_getElem? (i := 12) rfl)
theorem qw_925 : Cond.instanceMethod yX12_areDays ∈ wsL_law := wlm_39 _ (List.mem_of_getElem? (i := 13) rfl)
theorem qw_926 : Cond.selects RX12 yX12_areDays yX12_areDays ∈ wsL_law := wlm_39 _ (List.mem_of_getElem? (i := 14) rfl)
theorem qw_927 : Cond.code yX12_areDays cX12_areDays 2 (some .boolean) ∈ wsL_law := wlm_39 _ (List.mem_of_getElem? (i := 15) rfl)
theorem qw_928 : Cond.methodLink RX12 382 yX12_isRefused ∈ wsL_law := wlm_39 _ (List.mem_of_getElem? (i := 16) rfl)
theorem qw_929 : Cond.instanceMethod yX12_isRefused ∈ wsL_law := wlm_39 _ (List.mem_of_getElem? (i := 17) rfl)
theorem qw_930 : Cond.selects RX12 yX12_isRefused yX12_isRefused ∈ wsL_law := wlm_39 _ (List.mem_of_getElem? (i := 18) rfl)
theorem qw_931 : Cond.code yX12_isRefused cX12_isRefused 2 (some .boolean) ∈ wsL_law := wlm_39 _ (List.mem_of_getElem? (i := 19) rfl)
theorem qw_932 : Cond.methodLink RX12 385 yX12_keep ∈ wsL_law := wlm_39 _ (List.mem_of_getElem? (i := 20) rfl)
theorem qw_933 : Cond.instanceMethod yX12_keep ∈ wsL_law := wlm_39 _ (List.mem_of_getElem? (i := 21) rfl)
theorem qw_934 : Cond.selects RX12 yX12_keep yX12_keep ∈ wsL_law := wlm_39 _ (List.mem_of_getElem? (i := 22) rfl)
theorem qw_935 : Cond.code yX12_keep cX12_keep 2 none ∈ wsL_law := wlm_39 _ (List.mem_of_getElem? (i := 23) rfl)
theorem qw_936 : Cond.methodLink RX12 388 yX12_passDay ∈ wsL_law := wlm_40 _ (List.mem_of_getElem? (i := 0) rfl)
theorem qw_937 : Cond.instanceMethod yX12_passDay ∈ wsL_law := wlm_40 _ (List.mem_of_getElem? (i := 1) rfl)
theorem qw_938 : Cond.selects RX12 yX12_passDay yX12_passDay ∈ wsL_law := wlm_40 _ (List.mem_of_getElem? (i := 2) rfl)
theorem qw_939 : Cond.code yX12_passDay cX12_passDay 2 none ∈ wsL_law := wlm_40 _ (List.mem_of_getElem? (i := 3) rfl)
theorem qw_940 : Cond.fieldLink RX12 340 "RoadWheelsModel" "callsToday" "I" ∈ wsL_law := wlm_40 _ (List.mem_of_getElem? (i := 4) rfl)
theorem qw_941 : Cond.methodLink RX12 361 yX12_live ∈ wsL_law := wlm_40 _ (List.mem_of_getElem? (i := 5) rfl)
theorem qw_942 : Cond.instanceMethod yX12_live ∈ wsL_law := wlm_40 _ (List.mem_of_getElem? (i := 6) rfl)
theorem qw_943 : Cond.selects RX12 yX12_live yX12_live ∈ wsL_law := wlm_40 _ (List.mem_of_getElem? (i := 7) rfl)
theorem qw_944 : Cond.code yX12_live cX12_live 2 none ∈ wsL_law := wlm_40 _ (List.mem_of_getElem? (i := 8) rfl)
theorem qw_945 : Cond.methodLink RX12 355 yX12_layLongs ∈ wsL_law := wlm_40 _ (List.mem_of_getElem? (i := 9) rfl)
theorem qw_946 : Cond.instanceMethod yX12_layLongs ∈ wsL_law := wlm_40 _ (List.mem_of_getElem? (i := 10) rfl)
theorem qw_947 : Cond.selects RX12 yX12_layLongs yX12_layLongs ∈ wsL_law := wlm_40 _ (List.mem_of_getElem? (i := 11) rfl)
theorem qw_948 : Cond.code yX12_layLongs cX12_layLongs 2 none ∈ wsL_law := wlm_40 _ (List.mem_of_getElem? (i := 12) rfl)
theorem qw_949 : Cond.methodLink RX12 358 yX12_goOn ∈ wsL_law := wlm_40 _ (List.mem_of_getElem? (i := 13) rfl)
theorem qw_950 : Cond.instanceMethod yX12_goOn ∈ wsL_law := wlm_40 _ (List.mem_of_getElem? (i := 14) rfl)
theorem qw_951 : Cond.selects RX12 yX12_goOn yX12_goOn ∈ wsL_law := wlm_40 _ (List.mem_of_getElem? (i := 15) rfl)
theorem qw_952 : Cond.code yX12_goOn cX12_goOn 6 none ∈ wsL_law := wlm_40 _ (List.mem_of_getElem? (i := 16) rfl)
theorem qw_953 : Cond.methodLink RX12 343 yX12_nextIn ∈ wsL_law := wlm_40 _ (List.mem_of_getElem? (i := 17) rfl)
theorem qw_954 : Cond.instanceMethod yX12_nextIn ∈ wsL_law := wlm_40 _ (List.mem_of_getElem? (i := 18) rfl)
theorem qw_955 : Cond.selects RX12 yX12_nextIn yX12_nextIn ∈ wsL_law := wlm_40 _ (List.mem_of_getElem? (i := 19) rfl)
theorem qw_956 : Cond.code yX12_nextIn cX12_nextIn 2 (some .int) ∈ wsL_law := wlm_40 _ (List.mem_of_getElem? (i := 20) rfl)
theorem qw_957 : Cond.methodLink RX12 346 yX12_roadBetween ∈ wsL_law := wlm_40 _ (List.mem_of_getElem? (i := 21) rfl)
theorem qw_958 : Cond.instanceMethod yX12_roadBetween ∈ wsL_law := wlm_40 _ (List.mem_of_getElem? (i := 22) rfl)
theorem qw_959 : Cond.selects RX12 yX12_roadBetween yX12_roadBetween ∈ wsL_law := wlm_40 _ (List.mem_of_getElem? (i := 23) rfl)
theorem qw_960 : Cond.code yX12_roadBetween cX12_roadBetween 5 (some .int) ∈ wsL_law := wlm_41 _ (List.mem_of_getElem? (i := 0) rfl)
theorem qw_961 : Cond.methodLink RX12 337 yX12_joins ∈ wsL_law := wlm_41 _ (List.mem_of_getElem? (i := 1) rfl)
theorem qw_962 : Cond.instanceMethod yX12_joins ∈ wsL_law := wlm_41 _ (List.mem_of_getElem? (i := 2) rfl)
theorem qw_963 : Cond.selects RX12 yX12_joins yX12_joins ∈ wsL_law := wlm_41 _ (List.mem_of_getElem? (i := 3) rfl)
theorem qw_964 : Cond.code yX12_joins cX12_joins 4 (some .boolean) ∈ wsL_law := wlm_41 _ (List.mem_of_getElem? (i := 4) rfl)
theorem qw_965 : Cond.methodLink RX12 349 yX12_callAt ∈ wsL_law := wlm_41 _ (List.mem_of_getElem? (i := 5) rfl)
theorem qw_966 : Cond.instanceMethod yX12_callAt ∈ wsL_law := wlm_41 _ (List.mem_of_getElem? (i := 6) rfl)
theorem qw_967 : Cond.selects RX12 yX12_callAt yX12_callAt ∈ wsL_law := wlm_41 _ (List.mem_of_getElem? (i := 7) rfl)
theorem qw_968 : Cond.code yX12_callAt cX12_callAt 2 none ∈ wsL_law := wlm_41 _ (List.mem_of_getElem? (i := 8) rfl)
theorem qw_969 : Cond.methodLink RX12 352 yX12_dropWay ∈ wsL_law := wlm_41 _ (List.mem_of_getElem? (i := 9) rfl)
theorem qw_970 : Cond.instanceMethod yX12_dropWay ∈ wsL_law := wlm_41 _ (List.mem_of_getElem? (i := 10) rfl)
theorem qw_971 : Cond.selects RX12 yX12_dropWay yX12_dropWay ∈ wsL_law := wlm_41 _ (List.mem_of_getElem? (i := 11) rfl)
theorem qw_972 : Cond.code yX12_dropWay cX12_dropWay 2 none ∈ wsL_law := wlm_41 _ (List.mem_of_getElem? (i := 12) rfl)
theorem qw_973 : Cond.methodLink RX12 364 yX12_onWay ∈ wsL_law := wlm_41 _ (List.mem_of_getElem? (i := 13) rfl)
theorem qw_974 : Cond.instanceMethod yX12_onWay ∈ wsL_law := wlm_41 _ (List.mem_of_getElem? (i := 14) rfl)
theorem qw_975 : Cond.selects RX12 yX12_onWay yX12_onWay ∈ wsL_law := wlm_41 _ (List.mem_of_getElem? (i := 15) rfl)
theorem qw_976 : Cond.code yX12_onWay cX12_onWay 3 (some .int) ∈ wsL_law := wlm_41 _ (List.mem_of_getElem? (i := 16) rfl)
theorem qw_977 : Cond.methodLink RL 72 yX11_puts ∈ wsL_law := wlm_41 _ (List.mem_of_getElem? (i := 17) rfl)
theorem qw_978 : Cond.instanceMethod yX11_puts ∈ wsL_law := wlm_41 _ (List.mem_of_getElem? (i := 18) rfl)
theorem qw_979 : Cond.selects RX11 yX11_puts yX11_puts ∈ wsL_law := wlm_41 _ (List.mem_of_getElem? (i := 19) rfl)
theorem qw_980 : Cond.code yX11_puts cX11_puts 3 (some .int) ∈ wsL_law := wlm_41 _ (List.mem_of_getElem? (i := 20) rfl)
theorem qw_981 : Cond.methodLink RX11 269 yX8_putTo ∈ wsL_law := wlm_41 _ (List.mem_of_getElem? (i := 21) rfl)
theorem qw_982 : Cond.instanceMethod yX8_putTo ∈ wsL_law := wlm_41 _ (List.mem_of_getElem? (i := 22) rfl)
theorem qw_983 : Cond.selects RX8 yX8_putTo yX8_putTo ∈ wsL_law := wlm_41 _ (List.mem_of_getElem? (i := 23) rfl)
theorem qw_984 : Cond.code yX8_putTo cX8_putTo 3 none ∈ wsL_law := wlm_42 _ (List.mem_of_getElem? (i := 0) rfl)
theorem qw_985 : Cond.methodLink RL 75 yX12_puts ∈ wsL_law := wlm_42 _ (List.mem_of_getElem? (i := 1) rfl)
theorem qw_986 : Cond.instanceMethod yX12_puts ∈ wsL_law := wlm_42 _ (List.mem_of_getElem? (i := 2) rfl)
theorem qw_987 : Cond.selects RX12 yX12_puts yX12_puts ∈ wsL_law := wlm_42 _ (List.mem_of_getElem? (i := 3) rfl)
theorem qw_988 : Cond.code yX12_puts cX12_puts 3 (some .int) ∈ wsL_law := wlm_42 _ (List.mem_of_getElem? (i := 4) rfl)
theorem qw_989 : Cond.methodLink RX12 391 yX12_beginsAt ∈ wsL_law := wlm_42 _ (List.mem_of_getElem? (i := 5) rfl)
theorem qw_990 : Cond.instanceMethod yX12_beginsAt ∈ wsL_law := wlm_42 _ (List.mem_of_getElem? (i := 6) rfl)
theorem qw_991 : Cond.selects RX12 yX12_beginsAt yX12_beginsAt ∈ wsL_law := wlm_42 _ (List.mem_of_getElem? (i := 7) rfl)
theorem qw_992 : Cond.code yX12_beginsAt cX12_beginsAt 3 (some .boolean) ∈ wsL_law := wlm_42 _ (List.mem_of_getElem? (i := 8) rfl)
theorem qw_993 : Cond.methodLink RX12 394 yX12_putNow ∈ wsL_law := wlm_42 _ (List.mem_of_getElem? (i := 9) rfl)
theorem qw_994 : Cond.instanceMethod yX12_putNow ∈ wsL_law := wlm_42 _ (List.mem_of_getElem? (i := 10) rfl)
theorem qw_995 : Cond.selects RX12 yX12_putNow yX12_putNow ∈ wsL_law := wlm_42 _ (List.mem_of_getElem? (i := 11) rfl)
theorem qw_996 : Cond.code yX12_putNow cX12_putNow 3 none ∈ wsL_law := wlm_42 _ (List.mem_of_getElem? (i := 12) rfl)
theorem qw_997 : Cond.methodLink RL 76 yX11_carries ∈ wsL_law := wlm_42 _ (List.mem_of_getElem? (i := 13) rfl)
theorem qw_998 : Cond.instanceMethod yX11_carries ∈ wsL_law := wlm_42 _ (List.mem_of_getElem? (i := 14) rfl)
theorem qw_999 : Cond.selects RX11 yX11_carries yX11_carries ∈ wsL_law := wlm_42 _ (List.mem_of_getElem? (i := 15) rfl)
theorem qw_1000 : Cond.code yX11_carries cX11_carries 4 (some .int) ∈ wsL_law := wlm_42 _ (List.mem_of_getElem? (i := 16) rfl)
theorem qw_1001 : Cond.methodLink RX11 273 yX8_takeWay ∈ wsL_law := wlm_42 _ (List.mem_of_getElem? (i := 17) rfl)
theorem qw_1002 : Cond.methodLink RL 79 yX12_carries ∈ wsL_law := wlm_42 _ (List.mem_of_getElem? (i := 18) rfl)
theorem qw_1003 : Cond.instanceMethod yX12_carries ∈ wsL_law := wlm_42 _ (List.mem_of_getElem? (i := 19) rfl)
theorem qw_1004 : Cond.selects RX12 yX12_carries yX12_carries ∈ wsL_law := wlm_42 _ (List.mem_of_getElem? (i := 20) rfl)
theorem qw_1005 : Cond.code yX12_carries cX12_carries 4 (some .int) ∈ wsL_law := wlm_42 _ (List.mem_of_getElem? (i := 21) rfl)
theorem qw_1006 : Cond.methodLink RL 80 yX11_bars ∈ wsL_law := wlm_42 _ (List.mem_of_getElem? (i := 22) rfl)
theorem qw_1007 : Cond.instanceMethod yX11_bars ∈ wsL_law := wlm_42 _ (List.mem_of_getElem? (i := 23) rfl)
theorem qw_1008 : Cond.selects RX11 yX11_bars yX11_bars ∈ wsL_law := wlm_43 _ (List.mem_of_getElem? (i := 0) rfl)
theorem qw_1009 : Cond.code yX11_bars cX11_bars 2 (some .int) ∈ wsL_law := wlm_43 _ (List.mem_of_getElem? (i := 1) rfl)
theorem qw_1010 : Cond.methodLink RL 83 yX12_bars ∈ wsL_law := wlm_43 _ (List.mem_of_getElem? (i := 2) rfl)
theorem qw_1011 : Cond.instanceMethod yX12_bars ∈ wsL_law := wlm_43 _ (List.mem_of_getElem? (i := 3) rfl)
theorem qw_1012 : Cond.selects RX12 yX12_bars yX12_bars ∈ wsL_law := wlm_43 _ (List.mem_of_getElem? (i := 4) rfl)
theorem qw_1013 : Cond.code yX12_bars cX12_bars 2 (some .int) ∈ wsL_law := wlm_43 _ (List.mem_of_getElem? (i := 5) rfl)
theorem qw_1014 : Cond.methodLink RL 84 yX11_give ∈ wsL_law := wlm_43 _ (List.mem_of_getElem? (i := 6) rfl)
theorem qw_1015 : Cond.instanceMethod yX11_give ∈ wsL_law := wlm_43 _ (List.mem_of_getElem? (i := 7) rfl)
theorem qw_1016 : Cond.selects RX11 yX11_give yX11_give ∈ wsL_law := wlm_43 _ (List.mem_of_getElem? (i := 8) rfl)
theorem qw_1017 : Cond.code yX11_give cX11_give 2 (some .int) ∈ wsL_law := wlm_43 _ (List.mem_of_getElem? (i := 9) rfl)
theorem qw_1018 : Cond.methodLink RL 87 yX12_give ∈ wsL_law := wlm_43 _ (List.mem_of_getElem? (i := 10) rfl)
theorem qw_1019 : Cond.instanceMethod yX12_give ∈ wsL_law := wlm_43 _ (List.mem_of_getElem? (i := 11) rfl)
theorem qw_1020 : Cond.selects RX12 yX12_give yX12_give ∈ wsL_law := wlm_43 _ (List.mem_of_getElem? (i := 12) rfl)
theorem qw_1021 : Cond.code yX12_give cX12_give 2 (some .int) ∈ wsL_law := wlm_43 _ (List.mem_of_getElem? (i := 13) rfl)
theorem qw_1022 : Cond.methodLink RL 88 yX11_flood ∈ wsL_law := wlm_43 _ (List.mem_of_getElem? (i := 14) rfl)
theorem qw_1023 : Cond.instanceMethod yX11_flood ∈ wsL_law := wlm_43 _ (List.mem_of_getElem? (i := 15) rfl)
theorem qw_1024 : Cond.selects RX11 yX11_flood yX11_flood ∈ wsL_law := wlm_43 _ (List.mem_of_getElem? (i := 16) rfl)
theorem qw_1025 : Cond.code yX11_flood cX11_flood 2 (some .boolean) ∈ wsL_law := wlm_43 _ (List.mem_of_getElem? (i := 17) rfl)
theorem qw_1026 : Cond.methodLink RL 91 yX12_flood ∈ wsL_law := wlm_43 _ (List.mem_of_getElem? (i := 18) rfl)
theorem qw_1027 : Cond.instanceMethod yX12_flood ∈ wsL_law := wlm_43 _ (List.mem_of_getElem? (i := 19) rfl)
theorem qw_1028 : Cond.selects RX12 yX12_flood yX12_flood ∈ wsL_law := wlm_43 _ (List.mem_of_getElem? (i := 20) rfl)
theorem qw_1029 : Cond.code yX12_flood cX12_flood 2 (some .boolean) ∈ wsL_law := wlm_43 _ (List.mem_of_getElem? (i := 21) rfl)
theorem qw_1030 : Cond.methodLink RL 94 yX11_years ∈ wsL_law := wlm_43 _ (List.mem_of_getElem? (i := 22) rfl)
theorem qw_1031 : Cond.instanceMethod yX11_years ∈ wsL_law := wlm_43 _ (List.mem_of_getElem? (i := 23) rfl)
theorem qw_1032 : Cond.selects RX11 yX11_years yX11_years ∈ wsL_law := wlm_44 _ (List.mem_of_getElem? (i := 0) rfl)
theorem qw_1033 : Cond.code yX11_years cX11_years 5 (some .int) ∈ wsL_law := wlm_44 _ (List.mem_of_getElem? (i := 1) rfl)
theorem qw_1034 : Cond.fieldLink RX11 276 "RoadWheels" "drawn" "J" ∈ wsL_law := wlm_44 _ (List.mem_of_getElem? (i := 2) rfl)
theorem qw_1035 : Cond.methodLink RX11 280 yX11_drawFlood ∈ wsL_law := wlm_44 _ (List.mem_of_getElem? (i := 3) rfl)
theorem qw_1036 : Cond.instanceMethod yX11_drawFlood ∈ wsL_law := wlm_44 _ (List.mem_of_getElem? (i := 4) rfl)
theorem qw_1037 : Cond.selects RX11 yX11_drawFlood yX11_drawFlood ∈ wsL_law := wlm_44 _ (List.mem_of_getElem? (i := 5) rfl)
theorem qw_1038 : Cond.code yX11_drawFlood cX11_drawFlood 1 none ∈ wsL_law := wlm_44 _ (List.mem_of_getElem? (i := 6) rfl)
theorem qw_1039 : Cond.methodLink RX11 286 yX11_draw ∈ wsL_law := wlm_44 _ (List.mem_of_getElem? (i := 7) rfl)
theorem qw_1040 : Cond.instanceMethod yX11_draw ∈ wsL_law := wlm_44 _ (List.mem_of_getElem? (i := 8) rfl)
theorem qw_1041 : Cond.selects RX11 yX11_draw yX11_draw ∈ wsL_law := wlm_44 _ (List.mem_of_getElem? (i := 9) rfl)
theorem qw_1042 : Cond.code yX11_draw cX11_draw 2 (some .int) ∈ wsL_law := wlm_44 _ (List.mem_of_getElem? (i := 10) rfl)
theorem qw_1043 : Cond.constantLong RX11 295 (6364136223846793005) ∈ wsL_law := wlm_44 _ (List.mem_of_getElem? (i := 11) rfl)
theorem qw_1044 : Cond.constantLong RX11 297 (1442695040888963407) ∈ wsL_law := wlm_44 _ (List.mem_of_getElem? (i := 12) rfl)
theorem qw_1045 : Cond.methodLink RX11 283 yX11_drawPut ∈ wsL_law := wlm_44 _ (List.mem_of_getElem? (i := 13) rfl)
theorem qw_1046 : Cond.instanceMethod yX11_drawPut ∈ wsL_law := wlm_44 _ (List.mem_of_getElem? (i := 14) rfl)
theorem qw_1047 : Cond.selects RX11 yX11_drawPut yX11_drawPut ∈ wsL_law := wlm_44 _ (List.mem_of_getElem? (i := 15) rfl)
theorem qw_1048 : Cond.code yX11_drawPut cX11_drawPut 3 none ∈ wsL_law := wlm_44 _ (List.mem_of_getElem? (i := 16) rfl)
theorem qw_1049 : Cond.methodLink RL 98 yX12_years ∈ wsL_law := wlm_44 _ (List.mem_of_getElem? (i := 17) rfl)
theorem qw_1050 : Cond.instanceMethod yX12_years ∈ wsL_law := wlm_44 _ (List.mem_of_getElem? (i := 18) rfl)
theorem qw_1051 : Cond.selects RX12 yX12_years yX12_years ∈ wsL_law := wlm_44 _ (List.mem_of_getElem? (i := 19) rfl)
theorem qw_1052 : Cond.code yX12_years cX12_years 5 (some .int) ∈ wsL_law := wlm_44 _ (List.mem_of_getElem? (i := 20) rfl)
theorem qw_1053 : Cond.fieldLink RX12 397 "RoadWheelsModel" "draws" "J" ∈ wsL_law := wlm_44 _ (List.mem_of_getElem? (i := 21) rfl)
theorem qw_1054 : Cond.methodLink RX12 408 yX12_drawDay ∈ wsL_law := wlm_44 _ (List.mem_of_getElem? (i := 22) rfl)
theorem qw_1055 : Cond.instanceMethod yX12_drawDay ∈ wsL_law := wlm_44 _ (List.mem_of_getElem? (i := 23) rfl)
theorem qw_1056 : Cond.selects RX12 yX12_drawDay yX12_drawDay ∈ wsL_law := wlm_45 _ (List.mem_of_getElem? (i := 0) rfl)
theorem qw_1057 : Cond.code yX12_drawDay cX12_drawDay 3 none ∈ wsL_law := wlm_45 _ (List.mem_of_getElem? (i := 1) rfl)
theorem qw_1058 : Cond.methodLink RX12 405 yX12_draw ∈ wsL_law := wlm_45 _ (List.mem_of_getElem? (i := 2) rfl)
theorem qw_1059 : Cond.instanceMethod yX12_draw ∈ wsL_law := wlm_45 _ (List.mem_of_getElem? (i := 3) rfl)
theorem qw_1060 : Cond.selects RX12 yX12_draw yX12_draw ∈ wsL_law := wlm_45 _ (List.mem_of_getElem? (i := 4) rfl)
theorem qw_1061 : Cond.code yX12_draw cX12_draw 2 (some .int) ∈ wsL_law := wlm_45 _ (List.mem_of_getElem? (i := 5) rfl)
theorem qw_1062 : Cond.constantLong RX12 401 (6364136223846793005) ∈ wsL_law := wlm_45 _ (List.mem_of_getElem? (i := 6) rfl)
theorem qw_1063 : Cond.constantLong RX12 403 (1442695040888963407) ∈ wsL_law := wlm_45 _ (List.mem_of_getElem? (i := 7) rfl)
theorem qw_1064 : Cond.methodLink RL 99 yX11_status ∈ wsL_law := wlm_45 _ (List.mem_of_getElem? (i := 8) rfl)
theorem qw_1065 : Cond.instanceMethod yX11_status ∈ wsL_law := wlm_45 _ (List.mem_of_getElem? (i := 9) rfl)
theorem qw_1066 : Cond.selects RX11 yX11_status yX11_status ∈ wsL_law := wlm_45 _ (List.mem_of_getElem? (i := 10) rfl)
theorem qw_1067 : Cond.code yX11_status cX11_status 2 (some .int) ∈ wsL_law := wlm_45 _ (List.mem_of_getElem? (i := 11) rfl)
theorem qw_1068 : Cond.methodLink RL 102 yX12_status ∈ wsL_law := wlm_45 _ (List.mem_of_getElem? (i := 12) rfl)
theorem qw_1069 : Cond.instanceMethod yX12_status ∈ wsL_law := wlm_45 _ (List.mem_of_getElem? (i := 13) rfl)
theorem qw_1070 : Cond.selects RX12 yX12_status yX12_status ∈ wsL_law := wlm_45 _ (List.mem_of_getElem? (i := 14) rfl)
theorem qw_1071 : Cond.code yX12_status cX12_status 2 (some .int) ∈ wsL_law := wlm_45 _ (List.mem_of_getElem? (i := 15) rfl)
theorem qw_1072 : Cond.methodLink RL 103 yX11_undo ∈ wsL_law := wlm_45 _ (List.mem_of_getElem? (i := 16) rfl)
theorem qw_1073 : Cond.instanceMethod yX11_undo ∈ wsL_law := wlm_45 _ (List.mem_of_getElem? (i := 17) rfl)
theorem qw_1074 : Cond.selects RX11 yX11_undo yX11_undo ∈ wsL_law := wlm_45 _ (List.mem_of_getElem? (i := 18) rfl)
theorem qw_1075 : Cond.code yX11_undo cX11_undo 1 (some .int) ∈ wsL_law := wlm_45 _ (List.mem_of_getElem? (i := 19) rfl)
theorem qw_1076 : Cond.methodLink RX11 299 yX6_undoOne ∈ wsL_law := wlm_45 _ (List.mem_of_getElem? (i := 20) rfl)
theorem qw_1077 : Cond.instanceMethod yX6_undoOne ∈ wsL_law := wlm_45 _ (List.mem_of_getElem? (i := 21) rfl)
theorem qw_1078 : Cond.selects RX6 yX6_undoOne yX6_undoOne ∈ wsL_law := wlm_45 _ (List.mem_of_getElem? (i := 22) rfl)
theorem qw_1079 : Cond.code yX6_undoOne cX6_undoOne 2 (some .int) ∈ wsL_law := wlm_45 _ (List.mem_of_getElem? (i := 23) rfl)
theorem qw_1080 : Cond.methodLink RL 106 yX12_undo ∈ wsL_law := wlm_46 _ (List.mem_of_getElem? (i := 0) rfl)
theorem qw_1081 : Cond.instanceMethod yX12_undo ∈ wsL_law := wlm_46 _ (List.mem_of_getElem? (i := 1) rfl)
theorem qw_1082 : Cond.selects RX12 yX12_undo yX12_undo ∈ wsL_law := wlm_46 _ (List.mem_of_getElem? (i := 2) rfl)
theorem qw_1083 : Cond.code yX12_undo cX12_undo 2 (some .int) ∈ wsL_law := wlm_46 _ (List.mem_of_getElem? (i := 3) rfl)
theorem qw_1084 : Cond.methodLink RL 107 yX11_log ∈ wsL_law := wlm_46 _ (List.mem_of_getElem? (i := 4) rfl)
theorem qw_1085 : Cond.instanceMethod yX11_log ∈ wsL_law := wlm_46 _ (List.mem_of_getElem? (i := 5) rfl)
theorem qw_1086 : Cond.selects RX11 yX11_log yX11_log ∈ wsL_law := wlm_46 _ (List.mem_of_getElem? (i := 6) rfl)
theorem qw_1087 : Cond.code yX11_log cX11_log 3 (some .int) ∈ wsL_law := wlm_46 _ (List.mem_of_getElem? (i := 7) rfl)
theorem qw_1088 : Cond.methodLink RX11 302 yX6_logSize ∈ wsL_law := wlm_46 _ (List.mem_of_getElem? (i := 8) rfl)
theorem qw_1089 : Cond.static yX6_logSize ∈ wsL_law := wlm_46 _ (List.mem_of_getElem? (i := 9) rfl)
theorem qw_1090 : Cond.code yX6_logSize cX6_logSize 1 (some .int) ∈ wsL_law := wlm_46 _ (List.mem_of_getElem? (i := 10) rfl)
theorem qw_1091 : Cond.methodLink RX11 305 yX6_noted ∈ wsL_law := wlm_46 _ (List.mem_of_getElem? (i := 11) rfl)
theorem qw_1092 : Cond.instanceMethod yX6_noted ∈ wsL_law := wlm_46 _ (List.mem_of_getElem? (i := 12) rfl)
theorem qw_1093 : Cond.selects RX6 yX6_noted yX6_noted ∈ wsL_law := wlm_46 _ (List.mem_of_getElem? (i := 13) rfl)
theorem qw_1094 : Cond.code yX6_noted cX6_noted 3 (some .int) ∈ wsL_law := wlm_46 _ (List.mem_of_getElem? (i := 14) rfl)
theorem qw_1095 : Cond.methodLink RL 110 yX12_log ∈ wsL_law := wlm_46 _ (List.mem_of_getElem? (i := 15) rfl)
theorem qw_1096 : Cond.instanceMethod yX12_log ∈ wsL_law := wlm_46 _ (List.mem_of_getElem? (i := 16) rfl)
theorem qw_1097 : Cond.selects RX12 yX12_log yX12_log ∈ wsL_law := wlm_46 _ (List.mem_of_getElem? (i := 17) rfl)
theorem qw_1098 : Cond.code yX12_log cX12_log 3 (some .int) ∈ wsL_law := wlm_46 _ (List.mem_of_getElem? (i := 18) rfl)
theorem qw_1099 : Cond.methodLink RL 111 yX11_far ∈ wsL_law := wlm_46 _ (List.mem_of_getElem? (i := 19) rfl)
theorem qw_1100 : Cond.instanceMethod yX11_far ∈ wsL_law := wlm_46 _ (List.mem_of_getElem? (i := 20) rfl)
theorem qw_1101 : Cond.selects RX11 yX11_far yX11_far ∈ wsL_law := wlm_46 _ (List.mem_of_getElem? (i := 21) rfl)
theorem qw_1102 : Cond.code yX11_far cX11_far 3 (some .int) ∈ wsL_law := wlm_46 _ (List.mem_of_getElem? (i := 22) rfl)
theorem qw_1103 : Cond.methodLink RX11 308 yX0_hasPlaces ∈ wsL_law := wlm_46 _ (List.mem_of_getElem? (i := 23) rfl)
theorem qw_1104 : Cond.methodLink RX11 312 yX5_measure ∈ wsL_law := wlm_47 _ (List.mem_of_getElem? (i := 0) rfl)
theorem qw_1105 : Cond.instanceMethod yX5_measure ∈ wsL_law := wlm_47 _ (List.mem_of_getElem? (i := 1) rfl)
theorem qw_1106 : Cond.selects RX5 yX5_measure yX5_measure ∈ wsL_law := wlm_47 _ (List.mem_of_getElem? (i := 2) rfl)
theorem qw_1107 : Cond.code yX5_measure cX5_measure 5 none ∈ wsL_law := wlm_47 _ (List.mem_of_getElem? (i := 3) rfl)
theorem qw_1108 : Cond.fieldLink RX5 49 "RoadWheels$Net" "open" "I" ∈ wsL_law := wlm_47 _ (List.mem_of_getElem? (i := 4) rfl)
theorem qw_1109 : Cond.constant RX5 59 (1000000) ∈ wsL_law := wlm_47 _ (List.mem_of_getElem? (i := 5) rfl)
theorem qw_1110 : Cond.methodLink RX5 31 yX1_measure ∈ wsL_law := wlm_47 _ (List.mem_of_getElem? (i := 6) rfl)
theorem qw_1111 : Cond.methodLink RX5 37 yX0_allRoads ∈ wsL_law := wlm_47 _ (List.mem_of_getElem? (i := 7) rfl)
theorem qw_1112 : Cond.instanceMethod yX0_allRoads ∈ wsL_law := wlm_47 _ (List.mem_of_getElem? (i := 8) rfl)
theorem qw_1113 : Cond.selects RX0 yX0_allRoads yX0_allRoads ∈ wsL_law := wlm_47 _ (List.mem_of_getElem? (i := 9) rfl)
theorem qw_1114 : Cond.code yX0_allRoads cX0_allRoads 1 (some .int) ∈ wsL_law := wlm_47 _ (List.mem_of_getElem? (i := 10) rfl)
theorem qw_1115 : Cond.methodLink RX5 55 yX1_shortestBetween ∈ wsL_law := wlm_47 _ (List.mem_of_getElem? (i := 11) rfl)
theorem qw_1116 : Cond.methodLink RX5 63 yX5_shortenBy ∈ wsL_law := wlm_47 _ (List.mem_of_getElem? (i := 12) rfl)
theorem qw_1117 : Cond.instanceMethod yX5_shortenBy ∈ wsL_law := wlm_47 _ (List.mem_of_getElem? (i := 13) rfl)
theorem qw_1118 : Cond.selects RX5 yX5_shortenBy yX5_shortenBy ∈ wsL_law := wlm_47 _ (List.mem_of_getElem? (i := 14) rfl)
theorem qw_1119 : Cond.code yX5_shortenBy cX5_shortenBy 5 none ∈ wsL_law := wlm_47 _ (List.mem_of_getElem? (i := 15) rfl)
theorem qw_1120 : Cond.methodLink RX11 313 yX5_reaches ∈ wsL_law := wlm_47 _ (List.mem_of_getElem? (i := 16) rfl)
theorem qw_1121 : Cond.instanceMethod yX5_reaches ∈ wsL_law := wlm_47 _ (List.mem_of_getElem? (i := 17) rfl)
theorem qw_1122 : Cond.selects RX5 yX5_reaches yX5_reaches ∈ wsL_law := wlm_47 _ (List.mem_of_getElem? (i := 18) rfl)
theorem qw_1123 : Cond.code yX5_reaches cX5_reaches 3 (some .boolean) ∈ wsL_law := wlm_47 _ (List.mem_of_getElem? (i := 19) rfl)
theorem qw_1124 : Cond.methodLink RL 114 yX12_far ∈ wsL_law := wlm_47 _ (List.mem_of_getElem? (i := 20) rfl)
theorem qw_1125 : Cond.instanceMethod yX12_far ∈ wsL_law := wlm_47 _ (List.mem_of_getElem? (i := 21) rfl)
theorem qw_1126 : Cond.selects RX12 yX12_far yX12_far ∈ wsL_law := wlm_47 _ (List.mem_of_getElem? (i := 22) rfl)
theorem qw_1127 : Cond.code yX12_far cX12_far 3 (some .int) ∈ wsL_law := wlm_47 _ (List.mem_of_getElem? (i := 23) rfl)
theorem qw_1128 : Cond.constant RX12 411 (100000) ∈ wsL_law := wlm_48 _ (List.mem_of_getElem? (i := 0) rfl)
theorem qw_1129 : Cond.methodLink RX12 412 yX12_layAway ∈ wsL_law := wlm_48 _ (List.mem_of_getElem? (i := 1) rfl)
theorem qw_1130 : Cond.instanceMethod yX12_layAway ∈ wsL_law := wlm_48 _ (List.mem_of_getElem? (i := 2) rfl)
theorem qw_1131 : Cond.selects RX12 yX12_layAway yX12_layAway ∈ wsL_law := wlm_48 _ (List.mem_of_getElem? (i := 3) rfl)
theorem qw_1132 : Cond.code yX12_layAway cX12_layAway 3 none ∈ wsL_law := wlm_48 _ (List.mem_of_getElem? (i := 4) rfl)
theorem qw_1133 : Cond.methodLink RX12 415 yX12_awayOf ∈ wsL_law := wlm_48 _ (List.mem_of_getElem? (i := 5) rfl)
theorem qw_1134 : Cond.instanceMethod yX12_awayOf ∈ wsL_law := wlm_48 _ (List.mem_of_getElem? (i := 6) rfl)
theorem qw_1135 : Cond.selects RX12 yX12_awayOf yX12_awayOf ∈ wsL_law := wlm_48 _ (List.mem_of_getElem? (i := 7) rfl)
theorem qw_1136 : Cond.code yX12_awayOf cX12_awayOf 3 (some .int) ∈ wsL_law := wlm_48 _ (List.mem_of_getElem? (i := 8) rfl)
theorem qw_1137 : Cond.methodLink RL 115 yX11_row ∈ wsL_law := wlm_48 _ (List.mem_of_getElem? (i := 9) rfl)
theorem qw_1138 : Cond.instanceMethod yX11_row ∈ wsL_law := wlm_48 _ (List.mem_of_getElem? (i := 10) rfl)
theorem qw_1139 : Cond.selects RX11 yX11_row yX11_row ∈ wsL_law := wlm_48 _ (List.mem_of_getElem? (i := 11) rfl)
theorem qw_1140 : Cond.code yX11_row cX11_row 3 (some .int) ∈ wsL_law := wlm_48 _ (List.mem_of_getElem? (i := 12) rfl)
theorem qw_1141 : Cond.methodLink RX11 319 yX5_shortestRow ∈ wsL_law := wlm_48 _ (List.mem_of_getElem? (i := 13) rfl)
theorem qw_1142 : Cond.instanceMethod yX5_shortestRow ∈ wsL_law := wlm_48 _ (List.mem_of_getElem? (i := 14) rfl)
theorem qw_1143 : Cond.selects RX5 yX5_shortestRow yX5_shortestRow ∈ wsL_law := wlm_48 _ (List.mem_of_getElem? (i := 15) rfl)
theorem qw_1144 : Cond.code yX5_shortestRow cX5_shortestRow 6 (some .int) ∈ wsL_law := wlm_48 _ (List.mem_of_getElem? (i := 16) rfl)
theorem qw_1145 : Cond.methodLink RX5 67 yX5_countPlacesTo ∈ wsL_law := wlm_48 _ (List.mem_of_getElem? (i := 17) rfl)
theorem qw_1146 : Cond.instanceMethod yX5_countPlacesTo ∈ wsL_law := wlm_48 _ (List.mem_of_getElem? (i := 18) rfl)
theorem qw_1147 : Cond.selects RX5 yX5_countPlacesTo yX5_countPlacesTo ∈ wsL_law := wlm_48 _ (List.mem_of_getElem? (i := 19) rfl)
theorem qw_1148 : Cond.code yX5_countPlacesTo cX5_countPlacesTo 5 none ∈ wsL_law := wlm_48 _ (List.mem_of_getElem? (i := 20) rfl)
theorem qw_1149 : Cond.methodLink RX5 78 Lib.Math.min.name ∈ wsL_law := wlm_48 _ (List.mem_of_getElem? (i := 21) rfl)
theorem qw_1150 : Cond.methodLink RX5 74 yX5_leadsOn ∈ wsL_law := wlm_48 _ (List.mem_of_getElem? (i := 22) rfl)
theorem qw_1151 : Cond.instanceMethod yX5_leadsOn ∈ wsL_law := wlm_48 _ (List.mem_of_getElem? (i := 23) rfl)
theorem qw_1152 : Cond.selects RX5 yX5_leadsOn yX5_leadsOn ∈ wsL_law := wlm_49 _ (List.mem_of_getElem? (i := 0) rfl)
theorem qw_1153 : Cond.code yX5_leadsOn cX5_leadsOn 4 (some .boolean) ∈ wsL_law := wlm_49 _ (List.mem_of_getElem? (i := 1) rfl)
theorem qw_1154 : Cond.methodLink RX5 83 yX5_reaches ∈ wsL_law := wlm_49 _ (List.mem_of_getElem? (i := 2) rfl)
theorem qw_1155 : Cond.methodLink RX5 70 yX5_nextOnRow ∈ wsL_law := wlm_49 _ (List.mem_of_getElem? (i := 3) rfl)
theorem qw_1156 : Cond.instanceMethod yX5_nextOnRow ∈ wsL_law := wlm_49 _ (List.mem_of_getElem? (i := 4) rfl)
theorem qw_1157 : Cond.selects RX5 yX5_nextOnRow yX5_nextOnRow ∈ wsL_law := wlm_49 _ (List.mem_of_getElem? (i := 5) rfl)
theorem qw_1158 : Cond.code yX5_nextOnRow cX5_nextOnRow 4 (some .int) ∈ wsL_law := wlm_49 _ (List.mem_of_getElem? (i := 6) rfl)
theorem qw_1159 : Cond.methodLink RL 118 yX12_row ∈ wsL_law := wlm_49 _ (List.mem_of_getElem? (i := 7) rfl)
theorem qw_1160 : Cond.instanceMethod yX12_row ∈ wsL_law := wlm_49 _ (List.mem_of_getElem? (i := 8) rfl)
theorem qw_1161 : Cond.selects RX12 yX12_row yX12_row ∈ wsL_law := wlm_49 _ (List.mem_of_getElem? (i := 9) rfl)
theorem qw_1162 : Cond.code yX12_row cX12_row 3 (some .int) ∈ wsL_law := wlm_49 _ (List.mem_of_getElem? (i := 10) rfl)
theorem qw_1163 : Cond.fieldLink RX12 418 "RoadWheelsModel" "bestRow" "I" ∈ wsL_law := wlm_49 _ (List.mem_of_getElem? (i := 11) rfl)
theorem qw_1164 : Cond.methodLink RX12 428 yX12_far ∈ wsL_law := wlm_49 _ (List.mem_of_getElem? (i := 12) rfl)
theorem qw_1165 : Cond.methodLink RX12 424 yX12_tryRow ∈ wsL_law := wlm_49 _ (List.mem_of_getElem? (i := 13) rfl)
theorem qw_1166 : Cond.instanceMethod yX12_tryRow ∈ wsL_law := wlm_49 _ (List.mem_of_getElem? (i := 14) rfl)
theorem qw_1167 : Cond.selects RX12 yX12_tryRow yX12_tryRow ∈ wsL_law := wlm_49 _ (List.mem_of_getElem? (i := 15) rfl)
theorem qw_1168 : Cond.code yX12_tryRow cX12_tryRow 6 none ∈ wsL_law := wlm_49 _ (List.mem_of_getElem? (i := 16) rfl)
theorem qw_1169 : Cond.fieldLink RX12 421 "RoadWheelsModel" "bestLong" "I" ∈ wsL_law := wlm_49 _ (List.mem_of_getElem? (i := 17) rfl)
theorem qw_1170 : Cond.methodLink RL 119 yX11_where ∈ wsL_law := wlm_49 _ (List.mem_of_getElem? (i := 18) rfl)
theorem qw_1171 : Cond.instanceMethod yX11_where ∈ wsL_law := wlm_49 _ (List.mem_of_getElem? (i := 19) rfl)
theorem qw_1172 : Cond.selects RX11 yX11_where yX11_where ∈ wsL_law := wlm_49 _ (List.mem_of_getElem? (i := 20) rfl)
theorem qw_1173 : Cond.code yX11_where cX11_where 4 (some .int) ∈ wsL_law := wlm_49 _ (List.mem_of_getElem? (i := 21) rfl)
theorem qw_1174 : Cond.methodLink RX11 322 yX8_copyFrom ∈ wsL_law := wlm_49 _ (List.mem_of_getElem? (i := 22) rfl)
theorem qw_1175 : Cond.methodLink RL 122 yX12_where ∈ wsL_law := wlm_49 _ (List.mem_of_getElem? (i := 23) rfl)
theorem qw_1176 : Cond.instanceMethod yX12_where ∈ wsL_law := wlm_50 _ (List.mem_of_getElem? (i := 0) rfl)
theorem qw_1177 : Cond.selects RX12 yX12_where yX12_where ∈ wsL_law := wlm_50 _ (List.mem_of_getElem? (i := 1) rfl)
theorem qw_1178 : Cond.code yX12_where cX12_where 4 (some .int) ∈ wsL_law := wlm_50 _ (List.mem_of_getElem? (i := 2) rfl)
theorem qw_1179 : Cond.methodLink RX12 431 yX12_putAside ∈ wsL_law := wlm_50 _ (List.mem_of_getElem? (i := 3) rfl)
theorem qw_1180 : Cond.instanceMethod yX12_putAside ∈ wsL_law := wlm_50 _ (List.mem_of_getElem? (i := 4) rfl)
theorem qw_1181 : Cond.selects RX12 yX12_putAside yX12_putAside ∈ wsL_law := wlm_50 _ (List.mem_of_getElem? (i := 5) rfl)
theorem qw_1182 : Cond.code yX12_putAside cX12_putAside 2 none ∈ wsL_law := wlm_50 _ (List.mem_of_getElem? (i := 6) rfl)
theorem qw_1183 : Cond.methodLink RX12 434 yX12_takeBack ∈ wsL_law := wlm_50 _ (List.mem_of_getElem? (i := 7) rfl)
theorem qw_1184 : Cond.instanceMethod yX12_takeBack ∈ wsL_law := wlm_50 _ (List.mem_of_getElem? (i := 8) rfl)
theorem qw_1185 : Cond.selects RX12 yX12_takeBack yX12_takeBack ∈ wsL_law := wlm_50 _ (List.mem_of_getElem? (i := 9) rfl)
theorem qw_1186 : Cond.code yX12_takeBack cX12_takeBack 2 none ∈ wsL_law := wlm_50 _ (List.mem_of_getElem? (i := 10) rfl)
theorem qw_1187 : Cond.methodLink RL 123 yX11_done ∈ wsL_law := wlm_50 _ (List.mem_of_getElem? (i := 11) rfl)
theorem qw_1188 : Cond.instanceMethod yX11_done ∈ wsL_law := wlm_50 _ (List.mem_of_getElem? (i := 12) rfl)
theorem qw_1189 : Cond.selects RX11 yX11_done yX11_done ∈ wsL_law := wlm_50 _ (List.mem_of_getElem? (i := 13) rfl)
theorem qw_1190 : Cond.code yX11_done cX11_done 3 (some .int) ∈ wsL_law := wlm_50 _ (List.mem_of_getElem? (i := 14) rfl)
theorem qw_1191 : Cond.methodLink RL 126 yX12_done ∈ wsL_law := wlm_50 _ (List.mem_of_getElem? (i := 15) rfl)
theorem qw_1192 : Cond.instanceMethod yX12_done ∈ wsL_law := wlm_50 _ (List.mem_of_getElem? (i := 16) rfl)
theorem qw_1193 : Cond.selects RX12 yX12_done yX12_done ∈ wsL_law := wlm_50 _ (List.mem_of_getElem? (i := 17) rfl)
theorem qw_1194 : Cond.code yX12_done cX12_done 4 (some .int) ∈ wsL_law := wlm_50 _ (List.mem_of_getElem? (i := 18) rfl)
theorem qw_1195 : Cond.methodLink RL 127 yX11_parted ∈ wsL_law := wlm_50 _ (List.mem_of_getElem? (i := 19) rfl)
theorem qw_1196 : Cond.instanceMethod yX11_parted ∈ wsL_law := wlm_50 _ (List.mem_of_getElem? (i := 20) rfl)
theorem qw_1197 : Cond.selects RX11 yX11_parted yX11_parted ∈ wsL_law := wlm_50 _ (List.mem_of_getElem? (i := 21) rfl)
theorem qw_1198 : Cond.code yX11_parted cX11_parted 3 (some .int) ∈ wsL_law := wlm_50 _ (List.mem_of_getElem? (i := 22) rfl)
theorem qw_1199 : Cond.methodLink RX11 324 yX0_allRoads ∈ wsL_law := wlm_50 _ (List.mem_of_getElem? (i := 23) rfl)
theorem qw_1200 : Cond.methodLink RX11 327 yX5_fewestToPart ∈ wsL_law := wlm_51 _ (List.mem_of_getElem? (i := 0) rfl)
theorem qw_1201 : Cond.instanceMethod yX5_fewestToPart ∈ wsL_law := wlm_51 _ (List.mem_of_getElem? (i := 1) rfl)
theorem qw_1202 : Cond.selects RX5 yX5_fewestToPart yX5_fewestToPart ∈ wsL_law := wlm_51 _ (List.mem_of_getElem? (i := 2) rfl)
theorem qw_1203 : Cond.code yX5_fewestToPart cX5_fewestToPart 7 (some .int) ∈ wsL_law := wlm_51 _ (List.mem_of_getElem? (i := 3) rfl)
theorem qw_1204 : Cond.methodLink RX5 99 yJ6_bitCount_0f7a4 ∈ wsL_law := wlm_51 _ (List.mem_of_getElem? (i := 4) rfl)
theorem qw_1205 : Cond.methodLink RX5 105 yX5_meets ∈ wsL_law := wlm_51 _ (List.mem_of_getElem? (i := 5) rfl)
theorem qw_1206 : Cond.instanceMethod yX5_meets ∈ wsL_law := wlm_51 _ (List.mem_of_getElem? (i := 6) rfl)
theorem qw_1207 : Cond.selects RX5 yX5_meets yX5_meets ∈ wsL_law := wlm_51 _ (List.mem_of_getElem? (i := 7) rfl)
theorem qw_1208 : Cond.code yX5_meets cX5_meets 4 (some .boolean) ∈ wsL_law := wlm_51 _ (List.mem_of_getElem? (i := 8) rfl)
theorem qw_1209 : Cond.methodLink RX5 96 yX5_reachedFrom ∈ wsL_law := wlm_51 _ (List.mem_of_getElem? (i := 9) rfl)
theorem qw_1210 : Cond.instanceMethod yX5_reachedFrom ∈ wsL_law := wlm_51 _ (List.mem_of_getElem? (i := 10) rfl)
theorem qw_1211 : Cond.selects RX5 yX5_reachedFrom yX5_reachedFrom ∈ wsL_law := wlm_51 _ (List.mem_of_getElem? (i := 11) rfl)
theorem qw_1212 : Cond.code yX5_reachedFrom cX5_reachedFrom 8 (some .int) ∈ wsL_law := wlm_51 _ (List.mem_of_getElem? (i := 12) rfl)
theorem qw_1213 : Cond.methodLink RL 130 yX12_parted ∈ wsL_law := wlm_51 _ (List.mem_of_getElem? (i := 13) rfl)
theorem qw_1214 : Cond.instanceMethod yX12_parted ∈ wsL_law := wlm_51 _ (List.mem_of_getElem? (i := 14) rfl)
theorem qw_1215 : Cond.selects RX12 yX12_parted yX12_parted ∈ wsL_law := wlm_51 _ (List.mem_of_getElem? (i := 15) rfl)
theorem qw_1216 : Cond.code yX12_parted cX12_parted 3 (some .int) ∈ wsL_law := wlm_51 _ (List.mem_of_getElem? (i := 16) rfl)
theorem qw_1217 : Cond.methodLink RX12 443 yX12_areTwo ∈ wsL_law := wlm_51 _ (List.mem_of_getElem? (i := 17) rfl)
theorem qw_1218 : Cond.instanceMethod yX12_areTwo ∈ wsL_law := wlm_51 _ (List.mem_of_getElem? (i := 18) rfl)
theorem qw_1219 : Cond.selects RX12 yX12_areTwo yX12_areTwo ∈ wsL_law := wlm_51 _ (List.mem_of_getElem? (i := 19) rfl)
theorem qw_1220 : Cond.code yX12_areTwo cX12_areTwo 3 (some .boolean) ∈ wsL_law := wlm_51 _ (List.mem_of_getElem? (i := 20) rfl)
theorem qw_1221 : Cond.methodLink RX12 437 yX12_openOnes ∈ wsL_law := wlm_51 _ (List.mem_of_getElem? (i := 21) rfl)
theorem qw_1222 : Cond.instanceMethod yX12_openOnes ∈ wsL_law := wlm_51 _ (List.mem_of_getElem? (i := 22) rfl)
theorem qw_1223 : Cond.selects RX12 yX12_openOnes yX12_openOnes ∈ wsL_law := wlm_51 _ (List.mem_of_getElem? (i := 23) rfl)
theorem qw_1224 : Cond.code yX12_openOnes cX12_openOnes 1 (some .int) ∈ wsL_law := wlm_52 _ (List.mem_of_getElem? (i := 0) rfl)
theorem qw_1225 : Cond.methodLink RX12 446 yX12_fewestOf ∈ wsL_law := wlm_52 _ (List.mem_of_getElem? (i := 1) rfl)
theorem qw_1226 : Cond.instanceMethod yX12_fewestOf ∈ wsL_law := wlm_52 _ (List.mem_of_getElem? (i := 2) rfl)
theorem qw_1227 : Cond.selects RX12 yX12_fewestOf yX12_fewestOf ∈ wsL_law := wlm_52 _ (List.mem_of_getElem? (i := 3) rfl)
theorem qw_1228 : Cond.code yX12_fewestOf cX12_fewestOf 8 (some .int) ∈ wsL_law := wlm_52 _ (List.mem_of_getElem? (i := 4) rfl)
theorem qw_1229 : Cond.methodLink RX12 440 yX12_reachBy ∈ wsL_law := wlm_52 _ (List.mem_of_getElem? (i := 5) rfl)
theorem qw_1230 : Cond.instanceMethod yX12_reachBy ∈ wsL_law := wlm_52 _ (List.mem_of_getElem? (i := 6) rfl)
theorem qw_1231 : Cond.selects RX12 yX12_reachBy yX12_reachBy ∈ wsL_law := wlm_52 _ (List.mem_of_getElem? (i := 7) rfl)
theorem qw_1232 : Cond.code yX12_reachBy cX12_reachBy 6 (some .int) ∈ wsL_law := wlm_52 _ (List.mem_of_getElem? (i := 8) rfl)
theorem qw_1233 : Cond.methodLink RL 131 yX11_joined ∈ wsL_law := wlm_52 _ (List.mem_of_getElem? (i := 9) rfl)
theorem qw_1234 : Cond.instanceMethod yX11_joined ∈ wsL_law := wlm_52 _ (List.mem_of_getElem? (i := 10) rfl)
theorem qw_1235 : Cond.selects RX11 yX11_joined yX11_joined ∈ wsL_law := wlm_52 _ (List.mem_of_getElem? (i := 11) rfl)
theorem qw_1236 : Cond.code yX11_joined cX11_joined 3 (some .int) ∈ wsL_law := wlm_52 _ (List.mem_of_getElem? (i := 12) rfl)
theorem qw_1237 : Cond.methodLink RX11 331 yX5_fewestToJoin ∈ wsL_law := wlm_52 _ (List.mem_of_getElem? (i := 13) rfl)
theorem qw_1238 : Cond.instanceMethod yX5_fewestToJoin ∈ wsL_law := wlm_52 _ (List.mem_of_getElem? (i := 14) rfl)
theorem qw_1239 : Cond.selects RX5 yX5_fewestToJoin yX5_fewestToJoin ∈ wsL_law := wlm_52 _ (List.mem_of_getElem? (i := 15) rfl)
theorem qw_1240 : Cond.code yX5_fewestToJoin cX5_fewestToJoin 7 (some .int) ∈ wsL_law := wlm_52 _ (List.mem_of_getElem? (i := 16) rfl)
theorem qw_1241 : Cond.methodLink RL 134 yX12_joined ∈ wsL_law := wlm_52 _ (List.mem_of_getElem? (i := 17) rfl)
theorem qw_1242 : Cond.instanceMethod yX12_joined ∈ wsL_law := wlm_52 _ (List.mem_of_getElem? (i := 18) rfl)
theorem qw_1243 : Cond.selects RX12 yX12_joined yX12_joined ∈ wsL_law := wlm_52 _ (List.mem_of_getElem? (i := 19) rfl)
theorem qw_1244 : Cond.code yX12_joined cX12_joined 3 (some .int) ∈ wsL_law := wlm_52 _ (List.mem_of_getElem? (i := 20) rfl)
theorem qw_1245 : Cond.methodLink RL 135 yX11_seen ∈ wsL_law := wlm_52 _ (List.mem_of_getElem? (i := 21) rfl)
theorem qw_1246 : Cond.instanceMethod yX11_seen ∈ wsL_law := wlm_52 _ (List.mem_of_getElem? (i := 22) rfl)
theorem qw_1247 : Cond.selects RX11 yX11_seen yX11_seen ∈ wsL_law := wlm_52 _ (List.mem_of_getElem? (i := 23) rfl)
theorem qw_1248 : Cond.code yX11_seen cX11_seen 5 (some .int) ∈ wsL_law := wlm_53 _ (List.mem_of_getElem? (i := 0) rfl)
theorem qw_1249 : Cond.methodLink RX11 334 yX7_keep ∈ wsL_law := wlm_53 _ (List.mem_of_getElem? (i := 1) rfl)
theorem qw_1250 : Cond.instanceMethod yX7_keep ∈ wsL_law := wlm_53 _ (List.mem_of_getElem? (i := 2) rfl)
theorem qw_1251 : Cond.selects RX7 yX7_keep yX7_keep ∈ wsL_law := wlm_53 _ (List.mem_of_getElem? (i := 3) rfl)
theorem qw_1252 : Cond.code yX7_keep cX7_keep 5 (some .int) ∈ wsL_law := wlm_53 _ (List.mem_of_getElem? (i := 4) rfl)
theorem qw_1253 : Cond.fieldLink RX7 46 "RoadWheels$Sightings" "told" "I" ∈ wsL_law := wlm_53 _ (List.mem_of_getElem? (i := 5) rfl)
theorem qw_1254 : Cond.methodLink RL 139 yX12_seen ∈ wsL_law := wlm_53 _ (List.mem_of_getElem? (i := 6) rfl)
theorem qw_1255 : Cond.instanceMethod yX12_seen ∈ wsL_law := wlm_53 _ (List.mem_of_getElem? (i := 7) rfl)
theorem qw_1256 : Cond.selects RX12 yX12_seen yX12_seen ∈ wsL_law := wlm_53 _ (List.mem_of_getElem? (i := 8) rfl)
theorem qw_1257 : Cond.code yX12_seen cX12_seen 5 (some .int) ∈ wsL_law := wlm_53 _ (List.mem_of_getElem? (i := 9) rfl)
theorem qw_1258 : Cond.methodLink RL 140 yX11_fits ∈ wsL_law := wlm_53 _ (List.mem_of_getElem? (i := 10) rfl)
theorem qw_1259 : Cond.instanceMethod yX11_fits ∈ wsL_law := wlm_53 _ (List.mem_of_getElem? (i := 11) rfl)
theorem qw_1260 : Cond.selects RX11 yX11_fits yX11_fits ∈ wsL_law := wlm_53 _ (List.mem_of_getElem? (i := 12) rfl)
theorem qw_1261 : Cond.code yX11_fits cX11_fits 2 (some .int) ∈ wsL_law := wlm_53 _ (List.mem_of_getElem? (i := 13) rfl)
theorem qw_1262 : Cond.methodLink RX11 337 yX7_fittingWays ∈ wsL_law := wlm_53 _ (List.mem_of_getElem? (i := 14) rfl)
theorem qw_1263 : Cond.instanceMethod yX7_fittingWays ∈ wsL_law := wlm_53 _ (List.mem_of_getElem? (i := 15) rfl)
theorem qw_1264 : Cond.selects RX7 yX7_fittingWays yX7_fittingWays ∈ wsL_law := wlm_53 _ (List.mem_of_getElem? (i := 16) rfl)
theorem qw_1265 : Cond.code yX7_fittingWays cX7_fittingWays 4 (some .int) ∈ wsL_law := wlm_53 _ (List.mem_of_getElem? (i := 17) rfl)
theorem qw_1266 : Cond.methodLink RX7 53 yX10_placeAt ∈ wsL_law := wlm_53 _ (List.mem_of_getElem? (i := 18) rfl)
theorem qw_1267 : Cond.methodLink RX7 62 yX7_follow ∈ wsL_law := wlm_53 _ (List.mem_of_getElem? (i := 19) rfl)
theorem qw_1268 : Cond.instanceMethod yX7_follow ∈ wsL_law := wlm_53 _ (List.mem_of_getElem? (i := 20) rfl)
theorem qw_1269 : Cond.selects RX7 yX7_follow yX7_follow ∈ wsL_law := wlm_53 _ (List.mem_of_getElem? (i := 21) rfl)
theorem qw_1270 : Cond.code yX7_follow cX7_follow 4 none ∈ wsL_law := wlm_53 _ (List.mem_of_getElem? (i := 22) rfl)
theorem qw_1271 : Cond.methodLink RX7 70 yX8_begin ∈ wsL_law := wlm_53 _ (List.mem_of_getElem? (i := 23) rfl)
theorem qw_1272 : Cond.methodLink RX7 76 yX8_putTo ∈ wsL_law := wlm_54 _ (List.mem_of_getElem? (i := 0) rfl)
theorem qw_1273 : Cond.methodLink RX7 79 yX1_pass ∈ wsL_law := wlm_54 _ (List.mem_of_getElem? (i := 1) rfl)
theorem qw_1274 : Cond.methodLink RX7 66 yX7_agrees ∈ wsL_law := wlm_54 _ (List.mem_of_getElem? (i := 2) rfl)
theorem qw_1275 : Cond.instanceMethod yX7_agrees ∈ wsL_law := wlm_54 _ (List.mem_of_getElem? (i := 3) rfl)
theorem qw_1276 : Cond.selects RX7 yX7_agrees yX7_agrees ∈ wsL_law := wlm_54 _ (List.mem_of_getElem? (i := 4) rfl)
theorem qw_1277 : Cond.code yX7_agrees cX7_agrees 4 (some .boolean) ∈ wsL_law := wlm_54 _ (List.mem_of_getElem? (i := 5) rfl)
theorem qw_1278 : Cond.methodLink RL 143 yX12_fits ∈ wsL_law := wlm_54 _ (List.mem_of_getElem? (i := 6) rfl)
theorem qw_1279 : Cond.instanceMethod yX12_fits ∈ wsL_law := wlm_54 _ (List.mem_of_getElem? (i := 7) rfl)
theorem qw_1280 : Cond.selects RX12 yX12_fits yX12_fits ∈ wsL_law := wlm_54 _ (List.mem_of_getElem? (i := 8) rfl)
theorem qw_1281 : Cond.code yX12_fits cX12_fits 2 (some .int) ∈ wsL_law := wlm_54 _ (List.mem_of_getElem? (i := 9) rfl)
theorem qw_1282 : Cond.methodLink RX12 456 yX12_fitsOf ∈ wsL_law := wlm_54 _ (List.mem_of_getElem? (i := 10) rfl)
theorem qw_1283 : Cond.instanceMethod yX12_fitsOf ∈ wsL_law := wlm_54 _ (List.mem_of_getElem? (i := 11) rfl)
theorem qw_1284 : Cond.selects RX12 yX12_fitsOf yX12_fitsOf ∈ wsL_law := wlm_54 _ (List.mem_of_getElem? (i := 12) rfl)
theorem qw_1285 : Cond.code yX12_fitsOf cX12_fitsOf 4 (some .int) ∈ wsL_law := wlm_54 _ (List.mem_of_getElem? (i := 13) rfl)
theorem qw_1286 : Cond.methodLink RX12 450 yX12_layTrails ∈ wsL_law := wlm_54 _ (List.mem_of_getElem? (i := 14) rfl)
theorem qw_1287 : Cond.instanceMethod yX12_layTrails ∈ wsL_law := wlm_54 _ (List.mem_of_getElem? (i := 15) rfl)
theorem qw_1288 : Cond.selects RX12 yX12_layTrails yX12_layTrails ∈ wsL_law := wlm_54 _ (List.mem_of_getElem? (i := 16) rfl)
theorem qw_1289 : Cond.code yX12_layTrails cX12_layTrails 4 none ∈ wsL_law := wlm_54 _ (List.mem_of_getElem? (i := 17) rfl)
theorem qw_1290 : Cond.methodLink RX12 453 yX12_isFit ∈ wsL_law := wlm_54 _ (List.mem_of_getElem? (i := 18) rfl)
theorem qw_1291 : Cond.instanceMethod yX12_isFit ∈ wsL_law := wlm_54 _ (List.mem_of_getElem? (i := 19) rfl)
theorem qw_1292 : Cond.selects RX12 yX12_isFit yX12_isFit ∈ wsL_law := wlm_54 _ (List.mem_of_getElem? (i := 20) rfl)
theorem qw_1293 : Cond.code yX12_isFit cX12_isFit 5 (some .boolean) ∈ wsL_law := wlm_54 _ (List.mem_of_getElem? (i := 21) rfl)
theorem qw_1294 : Cond.methodLink RL 144 yX11_ask ∈ wsL_law := wlm_54 _ (List.mem_of_getElem? (i := 22) rfl)
theorem qw_1295 : Cond.instanceMethod yX11_ask ∈ wsL_law := wlm_54 _ (List.mem_of_getElem? (i := 23) rfl)
theorem qw_1296 : Cond.selects RX11 yX11_ask yX11_ask ∈ wsL_law := wlm_55 _ (List.mem_of_getElem? (i := 0) rfl)
theorem qw_1297 : Cond.code yX11_ask cX11_ask 3 (some .int) ∈ wsL_law := wlm_55 _ (List.mem_of_getElem? (i := 1) rfl)
theorem qw_1298 : Cond.methodLink RX11 340 yX7_bestDayFor ∈ wsL_law := wlm_55 _ (List.mem_of_getElem? (i := 2) rfl)
theorem qw_1299 : Cond.instanceMethod yX7_bestDayFor ∈ wsL_law := wlm_55 _ (List.mem_of_getElem? (i := 3) rfl)
theorem qw_1300 : Cond.selects RX7 yX7_bestDayFor yX7_bestDayFor ∈ wsL_law := wlm_55 _ (List.mem_of_getElem? (i := 4) rfl)
theorem qw_1301 : Cond.code yX7_bestDayFor cX7_bestDayFor 4 (some .int) ∈ wsL_law := wlm_55 _ (List.mem_of_getElem? (i := 5) rfl)
theorem qw_1302 : Cond.methodLink RX7 88 yX7_mostAlike ∈ wsL_law := wlm_55 _ (List.mem_of_getElem? (i := 6) rfl)
theorem qw_1303 : Cond.instanceMethod yX7_mostAlike ∈ wsL_law := wlm_55 _ (List.mem_of_getElem? (i := 7) rfl)
theorem qw_1304 : Cond.selects RX7 yX7_mostAlike yX7_mostAlike ∈ wsL_law := wlm_55 _ (List.mem_of_getElem? (i := 8) rfl)
theorem qw_1305 : Cond.code yX7_mostAlike cX7_mostAlike 7 (some .int) ∈ wsL_law := wlm_55 _ (List.mem_of_getElem? (i := 9) rfl)
theorem qw_1306 : Cond.methodLink RX7 93 Lib.Math.max.name ∈ wsL_law := wlm_55 _ (List.mem_of_getElem? (i := 10) rfl)
theorem qw_1307 : Cond.methodLink RL 147 yX12_ask ∈ wsL_law := wlm_55 _ (List.mem_of_getElem? (i := 11) rfl)
theorem qw_1308 : Cond.instanceMethod yX12_ask ∈ wsL_law := wlm_55 _ (List.mem_of_getElem? (i := 12) rfl)
theorem qw_1309 : Cond.selects RX12 yX12_ask yX12_ask ∈ wsL_law := wlm_55 _ (List.mem_of_getElem? (i := 13) rfl)
theorem qw_1310 : Cond.code yX12_ask cX12_ask 7 (some .int) ∈ wsL_law := wlm_55 _ (List.mem_of_getElem? (i := 14) rfl)
theorem qw_1311 : Cond.methodLink RX12 459 yX12_mostAlike ∈ wsL_law := wlm_55 _ (List.mem_of_getElem? (i := 15) rfl)
theorem qw_1312 : Cond.instanceMethod yX12_mostAlike ∈ wsL_law := wlm_55 _ (List.mem_of_getElem? (i := 16) rfl)
theorem qw_1313 : Cond.selects RX12 yX12_mostAlike yX12_mostAlike ∈ wsL_law := wlm_55 _ (List.mem_of_getElem? (i := 17) rfl)
theorem qw_1314 : Cond.code yX12_mostAlike cX12_mostAlike 7 (some .int) ∈ wsL_law := wlm_55 _ (List.mem_of_getElem? (i := 18) rfl)
theorem qw_1315 : Cond.methodLink RL 148 yX11_tour ∈ wsL_law := wlm_55 _ (List.mem_of_getElem? (i := 19) rfl)
theorem qw_1316 : Cond.instanceMethod yX11_tour ∈ wsL_law := wlm_55 _ (List.mem_of_getElem? (i := 20) rfl)
theorem qw_1317 : Cond.selects RX11 yX11_tour yX11_tour ∈ wsL_law := wlm_55 _ (List.mem_of_getElem? (i := 21) rfl)
theorem qw_1318 : Cond.code yX11_tour cX11_tour 4 (some .int) ∈ wsL_law := wlm_55 _ (List.mem_of_getElem? (i := 22) rfl)
theorem qw_1319 : Cond.methodLink RX11 343 yX0_hasAnyOf ∈ wsL_law := wlm_55 _ (List.mem_of_getElem? (i := 23) rfl)
theorem qw_1320 : Cond.instanceMethod yX0_hasAnyOf ∈ wsL_law := wlm_56 _ (List.mem_of_getElem? (i := 0) rfl)
theorem qw_1321 : Cond.selects RX0 yX0_hasAnyOf yX0_hasAnyOf ∈ wsL_law := wlm_56 _ (List.mem_of_getElem? (i := 1) rfl)
theorem qw_1322 : Cond.code yX0_hasAnyOf cX0_hasAnyOf 2 (some .boolean) ∈ wsL_law := wlm_56 _ (List.mem_of_getElem? (i := 2) rfl)
theorem qw_1323 : Cond.methodLink RX11 346 yX2_findTour ∈ wsL_law := wlm_56 _ (List.mem_of_getElem? (i := 3) rfl)
theorem qw_1324 : Cond.instanceMethod yX2_findTour ∈ wsL_law := wlm_56 _ (List.mem_of_getElem? (i := 4) rfl)
theorem qw_1325 : Cond.selects RX2 yX2_findTour yX2_findTour ∈ wsL_law := wlm_56 _ (List.mem_of_getElem? (i := 5) rfl)
theorem qw_1326 : Cond.code yX2_findTour cX2_findTour 4 (some .boolean) ∈ wsL_law := wlm_56 _ (List.mem_of_getElem? (i := 6) rfl)
theorem qw_1327 : Cond.fieldLink RX2 23 "RoadWheels$Errands" "tourFrom" "I" ∈ wsL_law := wlm_56 _ (List.mem_of_getElem? (i := 7) rfl)
theorem qw_1328 : Cond.constant RX2 29 (1000000) ∈ wsL_law := wlm_56 _ (List.mem_of_getElem? (i := 8) rfl)
theorem qw_1329 : Cond.fieldLink RX2 30 "RoadWheels$Errands" "bestHours" "I" ∈ wsL_law := wlm_56 _ (List.mem_of_getElem? (i := 9) rfl)
theorem qw_1330 : Cond.fieldLink RX2 33 "RoadWheels$Errands" "bestRow" "I" ∈ wsL_law := wlm_56 _ (List.mem_of_getElem? (i := 10) rfl)
theorem qw_1331 : Cond.methodLink RX2 36 yX2_goOnTour ∈ wsL_law := wlm_56 _ (List.mem_of_getElem? (i := 11) rfl)
theorem qw_1332 : Cond.instanceMethod yX2_goOnTour ∈ wsL_law := wlm_56 _ (List.mem_of_getElem? (i := 12) rfl)
theorem qw_1333 : Cond.selects RX2 yX2_goOnTour yX2_goOnTour ∈ wsL_law := wlm_56 _ (List.mem_of_getElem? (i := 13) rfl)
theorem qw_1334 : Cond.code yX2_goOnTour cX2_goOnTour 6 none ∈ wsL_law := wlm_56 _ (List.mem_of_getElem? (i := 14) rfl)
theorem qw_1335 : Cond.methodLink RX2 49 yX5_reaches ∈ wsL_law := wlm_56 _ (List.mem_of_getElem? (i := 15) rfl)
theorem qw_1336 : Cond.methodLink RL 152 yX12_tour ∈ wsL_law := wlm_56 _ (List.mem_of_getElem? (i := 16) rfl)
theorem qw_1337 : Cond.instanceMethod yX12_tour ∈ wsL_law := wlm_56 _ (List.mem_of_getElem? (i := 17) rfl)
theorem qw_1338 : Cond.selects RX12 yX12_tour yX12_tour ∈ wsL_law := wlm_56 _ (List.mem_of_getElem? (i := 18) rfl)
theorem qw_1339 : Cond.code yX12_tour cX12_tour 4 (some .int) ∈ wsL_law := wlm_56 _ (List.mem_of_getElem? (i := 19) rfl)
theorem qw_1340 : Cond.fieldLink RX12 462 "RoadWheelsModel" "bestMany" "I" ∈ wsL_law := wlm_56 _ (List.mem_of_getElem? (i := 20) rfl)
theorem qw_1341 : Cond.methodLink RX12 469 yX12_areSome ∈ wsL_law := wlm_56 _ (List.mem_of_getElem? (i := 21) rfl)
theorem qw_1342 : Cond.instanceMethod yX12_areSome ∈ wsL_law := wlm_56 _ (List.mem_of_getElem? (i := 22) rfl)
theorem qw_1343 : Cond.selects RX12 yX12_areSome yX12_areSome ∈ wsL_law := wlm_56 _ (List.mem_of_getElem? (i := 23) rfl)
theorem qw_1344 : Cond.code yX12_areSome cX12_areSome 2 (some .boolean) ∈ wsL_law := wlm_57 _ (List.mem_of_getElem? (i := 0) rfl)
theorem qw_1345 : Cond.methodLink RX12 465 yX12_tryTour ∈ wsL_law := wlm_57 _ (List.mem_of_getElem? (i := 1) rfl)
theorem qw_1346 : Cond.instanceMethod yX12_tryTour ∈ wsL_law := wlm_57 _ (List.mem_of_getElem? (i := 2) rfl)
theorem qw_1347 : Cond.selects RX12 yX12_tryTour yX12_tryTour ∈ wsL_law := wlm_57 _ (List.mem_of_getElem? (i := 3) rfl)
theorem qw_1348 : Cond.code yX12_tryTour cX12_tryTour 7 none ∈ wsL_law := wlm_57 _ (List.mem_of_getElem? (i := 4) rfl)
theorem qw_1349 : Cond.methodLink RL 153 yX11_doors ∈ wsL_law := wlm_57 _ (List.mem_of_getElem? (i := 5) rfl)
theorem qw_1350 : Cond.instanceMethod yX11_doors ∈ wsL_law := wlm_57 _ (List.mem_of_getElem? (i := 6) rfl)
theorem qw_1351 : Cond.selects RX11 yX11_doors yX11_doors ∈ wsL_law := wlm_57 _ (List.mem_of_getElem? (i := 7) rfl)
theorem qw_1352 : Cond.code yX11_doors cX11_doors 3 (some .int) ∈ wsL_law := wlm_57 _ (List.mem_of_getElem? (i := 8) rfl)
theorem qw_1353 : Cond.methodLink RX11 355 yX2_findDoors ∈ wsL_law := wlm_57 _ (List.mem_of_getElem? (i := 9) rfl)
theorem qw_1354 : Cond.instanceMethod yX2_findDoors ∈ wsL_law := wlm_57 _ (List.mem_of_getElem? (i := 10) rfl)
theorem qw_1355 : Cond.selects RX2 yX2_findDoors yX2_findDoors ∈ wsL_law := wlm_57 _ (List.mem_of_getElem? (i := 11) rfl)
theorem qw_1356 : Cond.code yX2_findDoors cX2_findDoors 2 none ∈ wsL_law := wlm_57 _ (List.mem_of_getElem? (i := 12) rfl)
theorem qw_1357 : Cond.fieldLink RX2 53 "RoadWheels$Errands" "bestGoing" "I" ∈ wsL_law := wlm_57 _ (List.mem_of_getElem? (i := 13) rfl)
theorem qw_1358 : Cond.methodLink RX2 56 yX2_goOnDoors ∈ wsL_law := wlm_57 _ (List.mem_of_getElem? (i := 14) rfl)
theorem qw_1359 : Cond.instanceMethod yX2_goOnDoors ∈ wsL_law := wlm_57 _ (List.mem_of_getElem? (i := 15) rfl)
theorem qw_1360 : Cond.selects RX2 yX2_goOnDoors yX2_goOnDoors ∈ wsL_law := wlm_57 _ (List.mem_of_getElem? (i := 16) rfl)
theorem qw_1361 : Cond.code yX2_goOnDoors cX2_goOnDoors 8 none ∈ wsL_law := wlm_57 _ (List.mem_of_getElem? (i := 17) rfl)
theorem qw_1362 : Cond.methodLink RL 156 yX12_doors ∈ wsL_law := wlm_57 _ (List.mem_of_getElem? (i := 18) rfl)
theorem qw_1363 : Cond.instanceMethod yX12_doors ∈ wsL_law := wlm_57 _ (List.mem_of_getElem? (i := 19) rfl)
theorem qw_1364 : Cond.selects RX12 yX12_doors yX12_doors ∈ wsL_law := wlm_57 _ (List.mem_of_getElem? (i := 20) rfl)
theorem qw_1365 : Cond.code yX12_doors cX12_doors 3 (some .int) ∈ wsL_law := wlm_57 _ (List.mem_of_getElem? (i := 21) rfl)
theorem qw_1366 : Cond.methodLink RX12 472 yX12_tryDoors ∈ wsL_law := wlm_57 _ (List.mem_of_getElem? (i := 22) rfl)
theorem qw_1367 : Cond.instanceMethod yX12_tryDoors ∈ wsL_law := wlm_57 _ (List.mem_of_getElem? (i := 23) rfl)
theorem qw_1368 : Cond.selects RX12 yX12_tryDoors yX12_tryDoors ∈ wsL_law := wlm_58 _ (List.mem_of_getElem? (i := 0) rfl)
theorem qw_1369 : Cond.code yX12_tryDoors cX12_tryDoors 8 none ∈ wsL_law := wlm_58 _ (List.mem_of_getElem? (i := 1) rfl)
theorem qw_1370 : Cond.methodLink RL 157 yX11_game ∈ wsL_law := wlm_58 _ (List.mem_of_getElem? (i := 2) rfl)
theorem qw_1371 : Cond.instanceMethod yX11_game ∈ wsL_law := wlm_58 _ (List.mem_of_getElem? (i := 3) rfl)
theorem qw_1372 : Cond.selects RX11 yX11_game yX11_game ∈ wsL_law := wlm_58 _ (List.mem_of_getElem? (i := 4) rfl)
theorem qw_1373 : Cond.code yX11_game cX11_game 6 (some .int) ∈ wsL_law := wlm_58 _ (List.mem_of_getElem? (i := 5) rfl)
theorem qw_1374 : Cond.constant RX11 361 (-1000000) ∈ wsL_law := wlm_58 _ (List.mem_of_getElem? (i := 6) rfl)
theorem qw_1375 : Cond.methodLink RX11 358 yX0_hasTwoSets ∈ wsL_law := wlm_58 _ (List.mem_of_getElem? (i := 7) rfl)
theorem qw_1376 : Cond.instanceMethod yX0_hasTwoSets ∈ wsL_law := wlm_58 _ (List.mem_of_getElem? (i := 8) rfl)
theorem qw_1377 : Cond.selects RX0 yX0_hasTwoSets yX0_hasTwoSets ∈ wsL_law := wlm_58 _ (List.mem_of_getElem? (i := 9) rfl)
theorem qw_1378 : Cond.code yX0_hasTwoSets cX0_hasTwoSets 3 (some .boolean) ∈ wsL_law := wlm_58 _ (List.mem_of_getElem? (i := 10) rfl)
theorem qw_1379 : Cond.methodLink RX0 54 yX0_hasSet ∈ wsL_law := wlm_58 _ (List.mem_of_getElem? (i := 11) rfl)
theorem qw_1380 : Cond.methodLink RX11 362 yX2_gain ∈ wsL_law := wlm_58 _ (List.mem_of_getElem? (i := 12) rfl)
theorem qw_1381 : Cond.instanceMethod yX2_gain ∈ wsL_law := wlm_58 _ (List.mem_of_getElem? (i := 13) rfl)
theorem qw_1382 : Cond.selects RX2 yX2_gain yX2_gain ∈ wsL_law := wlm_58 _ (List.mem_of_getElem? (i := 14) rfl)
theorem qw_1383 : Cond.code yX2_gain cX2_gain 6 (some .int) ∈ wsL_law := wlm_58 _ (List.mem_of_getElem? (i := 15) rfl)
theorem qw_1384 : Cond.methodLink RX2 69 yX0_hasPlace ∈ wsL_law := wlm_58 _ (List.mem_of_getElem? (i := 16) rfl)
theorem qw_1385 : Cond.methodLink RL 160 yX12_game ∈ wsL_law := wlm_58 _ (List.mem_of_getElem? (i := 17) rfl)
theorem qw_1386 : Cond.instanceMethod yX12_game ∈ wsL_law := wlm_58 _ (List.mem_of_getElem? (i := 18) rfl)
theorem qw_1387 : Cond.selects RX12 yX12_game yX12_game ∈ wsL_law := wlm_58 _ (List.mem_of_getElem? (i := 19) rfl)
theorem qw_1388 : Cond.code yX12_game cX12_game 6 (some .int) ∈ wsL_law := wlm_58 _ (List.mem_of_getElem? (i := 20) rfl)
theorem qw_1389 : Cond.constant RX12 478 (-1000000) ∈ wsL_law := wlm_58 _ (List.mem_of_getElem? (i := 21) rfl)
theorem qw_1390 : Cond.methodLink RX12 475 yX12_areSets ∈ wsL_law := wlm_58 _ (List.mem_of_getElem? (i := 22) rfl)
theorem qw_1391 : Cond.instanceMethod yX12_areSets ∈ wsL_law := wlm_58 _ (List.mem_of_getElem? (i := 23) rfl)
theorem qw_1392 : Cond.selects RX12 yX12_areSets yX12_areSets ∈ wsL_law := wlm_59 _ (List.mem_of_getElem? (i := 0) rfl)
theorem qw_1393 : Cond.code yX12_areSets cX12_areSets 3 (some .boolean) ∈ wsL_law := wlm_59 _ (List.mem_of_getElem? (i := 1) rfl)
theorem qw_1394 : Cond.methodLink RX12 479 yX12_gameOf ∈ wsL_law := wlm_59 _ (List.mem_of_getElem? (i := 2) rfl)
theorem qw_1395 : Cond.instanceMethod yX12_gameOf ∈ wsL_law := wlm_59 _ (List.mem_of_getElem? (i := 3) rfl)
theorem qw_1396 : Cond.selects RX12 yX12_gameOf yX12_gameOf ∈ wsL_law := wlm_59 _ (List.mem_of_getElem? (i := 4) rfl)
theorem qw_1397 : Cond.code yX12_gameOf cX12_gameOf 5 (some .int) ∈ wsL_law := wlm_59 _ (List.mem_of_getElem? (i := 5) rfl)
theorem qw_1398 : Cond.methodLink RL 161 yX11_rests ∈ wsL_law := wlm_59 _ (List.mem_of_getElem? (i := 6) rfl)
theorem qw_1399 : Cond.instanceMethod yX11_rests ∈ wsL_law := wlm_59 _ (List.mem_of_getElem? (i := 7) rfl)
theorem qw_1400 : Cond.selects RX11 yX11_rests yX11_rests ∈ wsL_law := wlm_59 _ (List.mem_of_getElem? (i := 8) rfl)
theorem qw_1401 : Cond.code yX11_rests cX11_rests 4 (some .int) ∈ wsL_law := wlm_59 _ (List.mem_of_getElem? (i := 9) rfl)
theorem qw_1402 : Cond.methodLink RX11 366 yX2_howManyRests ∈ wsL_law := wlm_59 _ (List.mem_of_getElem? (i := 10) rfl)
theorem qw_1403 : Cond.instanceMethod yX2_howManyRests ∈ wsL_law := wlm_59 _ (List.mem_of_getElem? (i := 11) rfl)
theorem qw_1404 : Cond.selects RX2 yX2_howManyRests yX2_howManyRests ∈ wsL_law := wlm_59 _ (List.mem_of_getElem? (i := 12) rfl)
theorem qw_1405 : Cond.code yX2_howManyRests cX2_howManyRests 6 (some .int) ∈ wsL_law := wlm_59 _ (List.mem_of_getElem? (i := 13) rfl)
theorem qw_1406 : Cond.methodLink RX2 76 yX2_isRest ∈ wsL_law := wlm_59 _ (List.mem_of_getElem? (i := 14) rfl)
theorem qw_1407 : Cond.instanceMethod yX2_isRest ∈ wsL_law := wlm_59 _ (List.mem_of_getElem? (i := 15) rfl)
theorem qw_1408 : Cond.selects RX2 yX2_isRest yX2_isRest ∈ wsL_law := wlm_59 _ (List.mem_of_getElem? (i := 16) rfl)
theorem qw_1409 : Cond.code yX2_isRest cX2_isRest 5 (some .boolean) ∈ wsL_law := wlm_59 _ (List.mem_of_getElem? (i := 17) rfl)
theorem qw_1410 : Cond.methodLink RX2 80 yX2_isBestAgainst ∈ wsL_law := wlm_59 _ (List.mem_of_getElem? (i := 18) rfl)
theorem qw_1411 : Cond.instanceMethod yX2_isBestAgainst ∈ wsL_law := wlm_59 _ (List.mem_of_getElem? (i := 19) rfl)
theorem qw_1412 : Cond.selects RX2 yX2_isBestAgainst yX2_isBestAgainst ∈ wsL_law := wlm_59 _ (List.mem_of_getElem? (i := 20) rfl)
theorem qw_1413 : Cond.code yX2_isBestAgainst cX2_isBestAgainst 6 (some .boolean) ∈ wsL_law := wlm_59 _ (List.mem_of_getElem? (i := 21) rfl)
theorem qw_1414 : Cond.methodLink RX2 84 yX2_gain ∈ wsL_law := wlm_59 _ (List.mem_of_getElem? (i := 22) rfl)
theorem qw_1415 : Cond.methodLink RX11 369 yX2_restAt ∈ wsL_law := wlm_59 _ (List.mem_of_getElem? (i := 23) rfl)
theorem qw_1416 : Cond.instanceMethod yX2_restAt ∈ wsL_law := wlm_60 _ (List.mem_of_getElem? (i := 0) rfl)
theorem qw_1417 : Cond.selects RX2 yX2_restAt yX2_restAt ∈ wsL_law := wlm_60 _ (List.mem_of_getElem? (i := 1) rfl)
theorem qw_1418 : Cond.code yX2_restAt cX2_restAt 7 (some .int) ∈ wsL_law := wlm_60 _ (List.mem_of_getElem? (i := 2) rfl)
theorem qw_1419 : Cond.methodLink RL 164 yX12_rests ∈ wsL_law := wlm_60 _ (List.mem_of_getElem? (i := 3) rfl)
theorem qw_1420 : Cond.instanceMethod yX12_rests ∈ wsL_law := wlm_60 _ (List.mem_of_getElem? (i := 4) rfl)
theorem qw_1421 : Cond.selects RX12 yX12_rests yX12_rests ∈ wsL_law := wlm_60 _ (List.mem_of_getElem? (i := 5) rfl)
theorem qw_1422 : Cond.code yX12_rests cX12_rests 6 (some .int) ∈ wsL_law := wlm_60 _ (List.mem_of_getElem? (i := 6) rfl)
theorem qw_1423 : Cond.methodLink RX12 482 yX12_isRest ∈ wsL_law := wlm_60 _ (List.mem_of_getElem? (i := 7) rfl)
theorem qw_1424 : Cond.instanceMethod yX12_isRest ∈ wsL_law := wlm_60 _ (List.mem_of_getElem? (i := 8) rfl)
theorem qw_1425 : Cond.selects RX12 yX12_isRest yX12_isRest ∈ wsL_law := wlm_60 _ (List.mem_of_getElem? (i := 9) rfl)
theorem qw_1426 : Cond.code yX12_isRest cX12_isRest 6 (some .boolean) ∈ wsL_law := wlm_60 _ (List.mem_of_getElem? (i := 10) rfl)
theorem qw_1427 : Cond.methodLink RL 165 yX11_odds ∈ wsL_law := wlm_60 _ (List.mem_of_getElem? (i := 11) rfl)
theorem qw_1428 : Cond.instanceMethod yX11_odds ∈ wsL_law := wlm_60 _ (List.mem_of_getElem? (i := 12) rfl)
theorem qw_1429 : Cond.selects RX11 yX11_odds yX11_odds ∈ wsL_law := wlm_60 _ (List.mem_of_getElem? (i := 13) rfl)
theorem qw_1430 : Cond.code yX11_odds cX11_odds 4 (some .int) ∈ wsL_law := wlm_60 _ (List.mem_of_getElem? (i := 14) rfl)
theorem qw_1431 : Cond.methodLink RX11 372 yX5_partsThatJoin ∈ wsL_law := wlm_60 _ (List.mem_of_getElem? (i := 15) rfl)
theorem qw_1432 : Cond.instanceMethod yX5_partsThatJoin ∈ wsL_law := wlm_60 _ (List.mem_of_getElem? (i := 16) rfl)
theorem qw_1433 : Cond.selects RX5 yX5_partsThatJoin yX5_partsThatJoin ∈ wsL_law := wlm_60 _ (List.mem_of_getElem? (i := 17) rfl)
theorem qw_1434 : Cond.code yX5_partsThatJoin cX5_partsThatJoin 5 (some .int) ∈ wsL_law := wlm_60 _ (List.mem_of_getElem? (i := 18) rfl)
theorem qw_1435 : Cond.constant RX5 108 (1000000000) ∈ wsL_law := wlm_60 _ (List.mem_of_getElem? (i := 19) rfl)
theorem qw_1436 : Cond.methodLink RX5 109 yX5_joiningParts ∈ wsL_law := wlm_60 _ (List.mem_of_getElem? (i := 20) rfl)
theorem qw_1437 : Cond.instanceMethod yX5_joiningParts ∈ wsL_law := wlm_60 _ (List.mem_of_getElem? (i := 21) rfl)
theorem qw_1438 : Cond.selects RX5 yX5_joiningParts yX5_joiningParts ∈ wsL_law := wlm_60 _ (List.mem_of_getElem? (i := 22) rfl)
theorem qw_1439 : Cond.code yX5_joiningParts cX5_joiningParts 10 (some .int) ∈ wsL_law := wlm_60 _ (List.mem_of_getElem? (i := 23) rfl)
theorem qw_1440 : Cond.constantLong RX5 113 (100) ∈ wsL_law := wlm_61 _ (List.mem_of_getElem? (i := 0) rfl)
theorem qw_1441 : Cond.methodLink RL 168 yX12_odds ∈ wsL_law := wlm_61 _ (List.mem_of_getElem? (i := 1) rfl)
theorem qw_1442 : Cond.instanceMethod yX12_odds ∈ wsL_law := wlm_61 _ (List.mem_of_getElem? (i := 2) rfl)
theorem qw_1443 : Cond.selects RX12 yX12_odds yX12_odds ∈ wsL_law := wlm_61 _ (List.mem_of_getElem? (i := 3) rfl)
theorem qw_1444 : Cond.code yX12_odds cX12_odds 4 (some .int) ∈ wsL_law := wlm_61 _ (List.mem_of_getElem? (i := 4) rfl)
theorem qw_1445 : Cond.constant RX12 491 (1000000000) ∈ wsL_law := wlm_61 _ (List.mem_of_getElem? (i := 5) rfl)
theorem qw_1446 : Cond.methodLink RX12 486 yX12_oddsFrom ∈ wsL_law := wlm_61 _ (List.mem_of_getElem? (i := 6) rfl)
theorem qw_1447 : Cond.instanceMethod yX12_oddsFrom ∈ wsL_law := wlm_61 _ (List.mem_of_getElem? (i := 7) rfl)
theorem qw_1448 : Cond.selects RX12 yX12_oddsFrom yX12_oddsFrom ∈ wsL_law := wlm_61 _ (List.mem_of_getElem? (i := 8) rfl)
theorem qw_1449 : Cond.code yX12_oddsFrom cX12_oddsFrom 8 (some .int) ∈ wsL_law := wlm_61 _ (List.mem_of_getElem? (i := 9) rfl)
theorem qw_1450 : Cond.constantLong RX12 489 (100) ∈ wsL_law := wlm_61 _ (List.mem_of_getElem? (i := 10) rfl)
theorem qw_1451 : Cond.methodLink RL 169 yX11_dead ∈ wsL_law := wlm_61 _ (List.mem_of_getElem? (i := 11) rfl)
theorem qw_1452 : Cond.instanceMethod yX11_dead ∈ wsL_law := wlm_61 _ (List.mem_of_getElem? (i := 12) rfl)
theorem qw_1453 : Cond.selects RX11 yX11_dead yX11_dead ∈ wsL_law := wlm_61 _ (List.mem_of_getElem? (i := 13) rfl)
theorem qw_1454 : Cond.code yX11_dead cX11_dead 3 (some .int) ∈ wsL_law := wlm_61 _ (List.mem_of_getElem? (i := 14) rfl)
theorem qw_1455 : Cond.methodLink RX11 376 yX5_reachedFrom ∈ wsL_law := wlm_61 _ (List.mem_of_getElem? (i := 15) rfl)
theorem qw_1456 : Cond.methodLink RX11 379 yJ6_bitCount_0f7a4 ∈ wsL_law := wlm_61 _ (List.mem_of_getElem? (i := 16) rfl)
theorem qw_1457 : Cond.methodLink RL 172 yX12_dead ∈ wsL_law := wlm_61 _ (List.mem_of_getElem? (i := 17) rfl)
theorem qw_1458 : Cond.instanceMethod yX12_dead ∈ wsL_law := wlm_61 _ (List.mem_of_getElem? (i := 18) rfl)
theorem qw_1459 : Cond.selects RX12 yX12_dead yX12_dead ∈ wsL_law := wlm_61 _ (List.mem_of_getElem? (i := 19) rfl)
theorem qw_1460 : Cond.code yX12_dead cX12_dead 2 (some .int) ∈ wsL_law := wlm_61 _ (List.mem_of_getElem? (i := 20) rfl)
theorem qw_1461 : Cond.methodLink RL 173 yX11_shares ∈ wsL_law := wlm_61 _ (List.mem_of_getElem? (i := 21) rfl)
theorem qw_1462 : Cond.instanceMethod yX11_shares ∈ wsL_law := wlm_61 _ (List.mem_of_getElem? (i := 22) rfl)
theorem qw_1463 : Cond.selects RX11 yX11_shares yX11_shares ∈ wsL_law := wlm_61 _ (List.mem_of_getElem? (i := 23) rfl)
theorem qw_1464 : Cond.code yX11_shares cX11_shares 5 (some .int) ∈ wsL_law := wlm_62 _ (List.mem_of_getElem? (i := 0) rfl)
theorem qw_1465 : Cond.methodLink RL 176 yX12_shares ∈ wsL_law := wlm_62 _ (List.mem_of_getElem? (i := 1) rfl)
theorem qw_1466 : Cond.instanceMethod yX12_shares ∈ wsL_law := wlm_62 _ (List.mem_of_getElem? (i := 2) rfl)
theorem qw_1467 : Cond.selects RX12 yX12_shares yX12_shares ∈ wsL_law := wlm_62 _ (List.mem_of_getElem? (i := 3) rfl)
theorem qw_1468 : Cond.code yX12_shares cX12_shares 5 (some .int) ∈ wsL_law := wlm_62 _ (List.mem_of_getElem? (i := 4) rfl)
theorem qw_1469 : Cond.methodLink RL 177 yX11_most ∈ wsL_law := wlm_62 _ (List.mem_of_getElem? (i := 5) rfl)
theorem qw_1470 : Cond.instanceMethod yX11_most ∈ wsL_law := wlm_62 _ (List.mem_of_getElem? (i := 6) rfl)
theorem qw_1471 : Cond.selects RX11 yX11_most yX11_most ∈ wsL_law := wlm_62 _ (List.mem_of_getElem? (i := 7) rfl)
theorem qw_1472 : Cond.code yX11_most cX11_most 2 (some .int) ∈ wsL_law := wlm_62 _ (List.mem_of_getElem? (i := 8) rfl)
theorem qw_1473 : Cond.methodLink RX11 384 yX11_firstGreatest ∈ wsL_law := wlm_62 _ (List.mem_of_getElem? (i := 9) rfl)
theorem qw_1474 : Cond.static yX11_firstGreatest ∈ wsL_law := wlm_62 _ (List.mem_of_getElem? (i := 10) rfl)
theorem qw_1475 : Cond.code yX11_firstGreatest cX11_firstGreatest 4 (some .int) ∈ wsL_law := wlm_62 _ (List.mem_of_getElem? (i := 11) rfl)
theorem qw_1476 : Cond.methodLink RX11 387 yX5_middle ∈ wsL_law := wlm_62 _ (List.mem_of_getElem? (i := 12) rfl)
theorem qw_1477 : Cond.instanceMethod yX5_middle ∈ wsL_law := wlm_62 _ (List.mem_of_getElem? (i := 13) rfl)
theorem qw_1478 : Cond.selects RX5 yX5_middle yX5_middle ∈ wsL_law := wlm_62 _ (List.mem_of_getElem? (i := 14) rfl)
theorem qw_1479 : Cond.code yX5_middle cX5_middle 3 (some .int) ∈ wsL_law := wlm_62 _ (List.mem_of_getElem? (i := 15) rfl)
theorem qw_1480 : Cond.methodLink RX5 115 yX5_farthestFrom ∈ wsL_law := wlm_62 _ (List.mem_of_getElem? (i := 16) rfl)
theorem qw_1481 : Cond.instanceMethod yX5_farthestFrom ∈ wsL_law := wlm_62 _ (List.mem_of_getElem? (i := 17) rfl)
theorem qw_1482 : Cond.selects RX5 yX5_farthestFrom yX5_farthestFrom ∈ wsL_law := wlm_62 _ (List.mem_of_getElem? (i := 18) rfl)
theorem qw_1483 : Cond.code yX5_farthestFrom cX5_farthestFrom 4 (some .int) ∈ wsL_law := wlm_62 _ (List.mem_of_getElem? (i := 19) rfl)
theorem qw_1484 : Cond.methodLink RX5 118 Lib.Math.max.name ∈ wsL_law := wlm_62 _ (List.mem_of_getElem? (i := 20) rfl)
theorem qw_1485 : Cond.methodLink RX11 390 yX5_bridges ∈ wsL_law := wlm_62 _ (List.mem_of_getElem? (i := 21) rfl)
theorem qw_1486 : Cond.instanceMethod yX5_bridges ∈ wsL_law := wlm_62 _ (List.mem_of_getElem? (i := 22) rfl)
theorem qw_1487 : Cond.selects RX5 yX5_bridges yX5_bridges ∈ wsL_law := wlm_62 _ (List.mem_of_getElem? (i := 23) rfl)
theorem qw_1488 : Cond.code yX5_bridges cX5_bridges 4 (some .int) ∈ wsL_law := wlm_63 _ (List.mem_of_getElem? (i := 0) rfl)
theorem qw_1489 : Cond.methodLink RX11 393 yX5_openHours ∈ wsL_law := wlm_63 _ (List.mem_of_getElem? (i := 1) rfl)
theorem qw_1490 : Cond.instanceMethod yX5_openHours ∈ wsL_law := wlm_63 _ (List.mem_of_getElem? (i := 2) rfl)
theorem qw_1491 : Cond.selects RX5 yX5_openHours yX5_openHours ∈ wsL_law := wlm_63 _ (List.mem_of_getElem? (i := 3) rfl)
theorem qw_1492 : Cond.code yX5_openHours cX5_openHours 3 (some .int) ∈ wsL_law := wlm_63 _ (List.mem_of_getElem? (i := 4) rfl)
theorem qw_1493 : Cond.methodLink RX11 396 yX5_parts ∈ wsL_law := wlm_63 _ (List.mem_of_getElem? (i := 5) rfl)
theorem qw_1494 : Cond.instanceMethod yX5_parts ∈ wsL_law := wlm_63 _ (List.mem_of_getElem? (i := 6) rfl)
theorem qw_1495 : Cond.selects RX5 yX5_parts yX5_parts ∈ wsL_law := wlm_63 _ (List.mem_of_getElem? (i := 7) rfl)
theorem qw_1496 : Cond.code yX5_parts cX5_parts 4 (some .int) ∈ wsL_law := wlm_63 _ (List.mem_of_getElem? (i := 8) rfl)
theorem qw_1497 : Cond.methodLink RL 180 yX12_most ∈ wsL_law := wlm_63 _ (List.mem_of_getElem? (i := 9) rfl)
theorem qw_1498 : Cond.instanceMethod yX12_most ∈ wsL_law := wlm_63 _ (List.mem_of_getElem? (i := 10) rfl)
theorem qw_1499 : Cond.selects RX12 yX12_most yX12_most ∈ wsL_law := wlm_63 _ (List.mem_of_getElem? (i := 11) rfl)
theorem qw_1500 : Cond.code yX12_most cX12_most 2 (some .int) ∈ wsL_law := wlm_63 _ (List.mem_of_getElem? (i := 12) rfl)
theorem qw_1501 : Cond.methodLink RX12 495 yX12_topRoad ∈ wsL_law := wlm_63 _ (List.mem_of_getElem? (i := 13) rfl)
theorem qw_1502 : Cond.instanceMethod yX12_topRoad ∈ wsL_law := wlm_63 _ (List.mem_of_getElem? (i := 14) rfl)
theorem qw_1503 : Cond.selects RX12 yX12_topRoad yX12_topRoad ∈ wsL_law := wlm_63 _ (List.mem_of_getElem? (i := 15) rfl)
theorem qw_1504 : Cond.code yX12_topRoad cX12_topRoad 5 (some .int) ∈ wsL_law := wlm_63 _ (List.mem_of_getElem? (i := 16) rfl)
theorem qw_1505 : Cond.methodLink RX12 499 yX12_bridges ∈ wsL_law := wlm_63 _ (List.mem_of_getElem? (i := 17) rfl)
theorem qw_1506 : Cond.instanceMethod yX12_bridges ∈ wsL_law := wlm_63 _ (List.mem_of_getElem? (i := 18) rfl)
theorem qw_1507 : Cond.selects RX12 yX12_bridges yX12_bridges ∈ wsL_law := wlm_63 _ (List.mem_of_getElem? (i := 19) rfl)
theorem qw_1508 : Cond.code yX12_bridges cX12_bridges 3 (some .int) ∈ wsL_law := wlm_63 _ (List.mem_of_getElem? (i := 20) rfl)
theorem qw_1509 : Cond.methodLink RX12 502 yX12_openLength ∈ wsL_law := wlm_63 _ (List.mem_of_getElem? (i := 21) rfl)
theorem qw_1510 : Cond.instanceMethod yX12_openLength ∈ wsL_law := wlm_63 _ (List.mem_of_getElem? (i := 22) rfl)
theorem qw_1511 : Cond.selects RX12 yX12_openLength yX12_openLength ∈ wsL_law := wlm_63 _ (List.mem_of_getElem? (i := 23) rfl)
theorem qw_1512 : Cond.code yX12_openLength cX12_openLength 3 (some .int) ∈ wsL_law := wlm_64 _ (List.mem_of_getElem? (i := 0) rfl)
theorem qw_1513 : Cond.methodLink RX12 505 yX12_parts ∈ wsL_law := wlm_64 _ (List.mem_of_getElem? (i := 1) rfl)
theorem qw_1514 : Cond.instanceMethod yX12_parts ∈ wsL_law := wlm_64 _ (List.mem_of_getElem? (i := 2) rfl)
theorem qw_1515 : Cond.selects RX12 yX12_parts yX12_parts ∈ wsL_law := wlm_64 _ (List.mem_of_getElem? (i := 3) rfl)
theorem qw_1516 : Cond.code yX12_parts cX12_parts 4 (some .int) ∈ wsL_law := wlm_64 _ (List.mem_of_getElem? (i := 4) rfl)
theorem qw_1517 : Cond.methodLink RX12 508 yX12_topPlace ∈ wsL_law := wlm_64 _ (List.mem_of_getElem? (i := 5) rfl)
theorem qw_1518 : Cond.instanceMethod yX12_topPlace ∈ wsL_law := wlm_64 _ (List.mem_of_getElem? (i := 6) rfl)
theorem qw_1519 : Cond.selects RX12 yX12_topPlace yX12_topPlace ∈ wsL_law := wlm_64 _ (List.mem_of_getElem? (i := 7) rfl)
theorem qw_1520 : Cond.code yX12_topPlace cX12_topPlace 5 (some .int) ∈ wsL_law := wlm_64 _ (List.mem_of_getElem? (i := 8) rfl)
theorem qw_1521 : Cond.methodLink RX12 492 yX12_farthestFrom ∈ wsL_law := wlm_64 _ (List.mem_of_getElem? (i := 9) rfl)
theorem qw_1522 : Cond.instanceMethod yX12_farthestFrom ∈ wsL_law := wlm_64 _ (List.mem_of_getElem? (i := 10) rfl)
theorem qw_1523 : Cond.selects RX12 yX12_farthestFrom yX12_farthestFrom ∈ wsL_law := wlm_64 _ (List.mem_of_getElem? (i := 11) rfl)
theorem qw_1524 : Cond.code yX12_farthestFrom cX12_farthestFrom 4 (some .int) ∈ wsL_law := wlm_64 _ (List.mem_of_getElem? (i := 12) rfl)
theorem qw_1525 : Cond.methodLink RL 181 yX11_image ∈ wsL_law := wlm_64 _ (List.mem_of_getElem? (i := 13) rfl)
theorem qw_1526 : Cond.instanceMethod yX11_image ∈ wsL_law := wlm_64 _ (List.mem_of_getElem? (i := 14) rfl)
theorem qw_1527 : Cond.selects RX11 yX11_image yX11_image ∈ wsL_law := wlm_64 _ (List.mem_of_getElem? (i := 15) rfl)
theorem qw_1528 : Cond.code yX11_image cX11_image 1 (some .int) ∈ wsL_law := wlm_64 _ (List.mem_of_getElem? (i := 16) rfl)
theorem qw_1529 : Cond.methodLink RX11 399 yX6_keepImage ∈ wsL_law := wlm_64 _ (List.mem_of_getElem? (i := 17) rfl)
theorem qw_1530 : Cond.instanceMethod yX6_keepImage ∈ wsL_law := wlm_64 _ (List.mem_of_getElem? (i := 18) rfl)
theorem qw_1531 : Cond.selects RX6 yX6_keepImage yX6_keepImage ∈ wsL_law := wlm_64 _ (List.mem_of_getElem? (i := 19) rfl)
theorem qw_1532 : Cond.code yX6_keepImage cX6_keepImage 2 none ∈ wsL_law := wlm_64 _ (List.mem_of_getElem? (i := 20) rfl)
theorem qw_1533 : Cond.methodLink RX6 57 arraycopyName ∈ wsL_law := wlm_64 _ (List.mem_of_getElem? (i := 21) rfl)
theorem qw_1534 : Cond.methodLink RL 184 yX12_image ∈ wsL_law := wlm_64 _ (List.mem_of_getElem? (i := 22) rfl)
theorem qw_1535 : Cond.instanceMethod yX12_image ∈ wsL_law := wlm_64 _ (List.mem_of_getElem? (i := 23) rfl)
theorem qw_1536 : Cond.selects RX12 yX12_image yX12_image ∈ wsL_law := wlm_65 _ (List.mem_of_getElem? (i := 0) rfl)
theorem qw_1537 : Cond.code yX12_image cX12_image 2 (some .int) ∈ wsL_law := wlm_65 _ (List.mem_of_getElem? (i := 1) rfl)
theorem qw_1538 : Cond.methodLink RL 185 yX11_back ∈ wsL_law := wlm_65 _ (List.mem_of_getElem? (i := 2) rfl)
theorem qw_1539 : Cond.instanceMethod yX11_back ∈ wsL_law := wlm_65 _ (List.mem_of_getElem? (i := 3) rfl)
theorem qw_1540 : Cond.selects RX11 yX11_back yX11_back ∈ wsL_law := wlm_65 _ (List.mem_of_getElem? (i := 4) rfl)
theorem qw_1541 : Cond.code yX11_back cX11_back 1 (some .int) ∈ wsL_law := wlm_65 _ (List.mem_of_getElem? (i := 5) rfl)
theorem qw_1542 : Cond.methodLink RX11 402 yX6_goBack ∈ wsL_law := wlm_65 _ (List.mem_of_getElem? (i := 6) rfl)
theorem qw_1543 : Cond.instanceMethod yX6_goBack ∈ wsL_law := wlm_65 _ (List.mem_of_getElem? (i := 7) rfl)
theorem qw_1544 : Cond.selects RX6 yX6_goBack yX6_goBack ∈ wsL_law := wlm_65 _ (List.mem_of_getElem? (i := 8) rfl)
theorem qw_1545 : Cond.code yX6_goBack cX6_goBack 2 (some .boolean) ∈ wsL_law := wlm_65 _ (List.mem_of_getElem? (i := 9) rfl)
theorem qw_1546 : Cond.methodLink RL 188 yX12_back ∈ wsL_law := wlm_65 _ (List.mem_of_getElem? (i := 10) rfl)
theorem qw_1547 : Cond.instanceMethod yX12_back ∈ wsL_law := wlm_65 _ (List.mem_of_getElem? (i := 11) rfl)
theorem qw_1548 : Cond.selects RX12 yX12_back yX12_back ∈ wsL_law := wlm_65 _ (List.mem_of_getElem? (i := 12) rfl)
theorem qw_1549 : Cond.code yX12_back cX12_back 2 (some .int) ∈ wsL_law := wlm_65 _ (List.mem_of_getElem? (i := 13) rfl)
theorem qw_1550 : Cond.methodLink RL 189 yX11_count ∈ wsL_law := wlm_65 _ (List.mem_of_getElem? (i := 14) rfl)
theorem qw_1551 : Cond.instanceMethod yX11_count ∈ wsL_law := wlm_65 _ (List.mem_of_getElem? (i := 15) rfl)
theorem qw_1552 : Cond.selects RX11 yX11_count yX11_count ∈ wsL_law := wlm_65 _ (List.mem_of_getElem? (i := 16) rfl)
theorem qw_1553 : Cond.code yX11_count cX11_count 2 (some .int) ∈ wsL_law := wlm_65 _ (List.mem_of_getElem? (i := 17) rfl)
theorem qw_1554 : Cond.methodLink RL 192 yX12_count ∈ wsL_law := wlm_65 _ (List.mem_of_getElem? (i := 18) rfl)
theorem qw_1555 : Cond.instanceMethod yX12_count ∈ wsL_law := wlm_65 _ (List.mem_of_getElem? (i := 19) rfl)
theorem qw_1556 : Cond.selects RX12 yX12_count yX12_count ∈ wsL_law := wlm_65 _ (List.mem_of_getElem? (i := 20) rfl)
theorem qw_1557 : Cond.code yX12_count cX12_count 2 (some .int) ∈ wsL_law := wlm_65 _ (List.mem_of_getElem? (i := 21) rfl)
theorem sgG_0 : sg_G 0 := fun C T N h => by
  have e : some (RX0, TX0, 13) = some (C, T, N) := h
  cases e
  exact ⟨tyX0_ok, nmX0⟩
theorem sgG_1 : sg_G 1 := fun C T N h => by
  have e : some (RX1, TX1, 5) = some (C, T, N) := h
  cases e
  exact ⟨tyX1_ok, nmX1⟩
theorem sgG_2 : sg_G 2 := fun C T N h => by
  have e : some (RX2, TX2, 7) = some (C, T, N) := h
  cases e
  exact ⟨tyX2_ok, nmX2⟩
theorem sgG_3 : sg_G 3 := fun C T N h => by
  have e : some (RX3, TX3, 3) = some (C, T, N) := h
  cases e
  exact ⟨tyX3_ok, nmX3⟩
theorem sgG_4 : sg_G 4 := fun C T N h => by
  have e : some (RX4, TX4, 6) = some (C, T, N) := h
  cases e
  exact ⟨tyX4_ok, nmX4⟩
theorem sgG_5 : sg_G 5 := fun C T N h => by
  have e : some (RX5, TX5, 6) = some (C, T, N) := h
  cases e
  exact ⟨tyX5_ok, nmX5⟩
theorem sgG_6 : sg_G 6 := fun C T N h => by
  have e : some (RX6, TX6, 7) = some (C, T, N) := h
  cases e
  exact ⟨tyX6_ok, nmX6⟩
theorem sgG_7 : sg_G 7 := fun C T N h => by
  have e : some (RX7, TX7, 10) = some (C, T, N) := h
  cases e
  exact ⟨tyX7_ok, nmX7⟩
theorem sgG_8 : sg_G 8 := fun C T N h => by
  have e : some (RX8, TX8, 8) = some (C, T, N) := h
  cases e
  exact ⟨tyX8_ok, nmX8⟩
theorem sgG_9 : sg_G 9 := fun C T N h => by
  have e : some (RX9, TX9, 3) = some (C, T, N) := h
  cases e
  exact ⟨tyX9_ok, nmX9⟩
theorem sgG_10 : sg_G 10 := fun C T N h => by
  have e : some (RX10, TX10, 5) = some (C, T, N) := h
  cases e
  exact ⟨tyX10_ok, nmX10⟩
theorem sgG_11 : sg_G 11 := fun C T N h => by
  have e : some (RX11, TX11, 16) = some (C, T, N) := h
  cases e
  exact ⟨tyX11_ok, nmX11⟩
theorem sgG_12 : sg_G 12 := fun C T N h => by
  have e : some (RX12, TX12, 58) = some (C, T, N) := h
  cases e
  exact ⟨tyX12_ok, nmX12⟩
theorem wk_0_0 : sg_W 0 0 .int := ⟨sgG_0, RX0, TX0, 13, rfl, rfl, by decide +kernel⟩
theorem wk_0_1 : sg_W 0 1 .int := ⟨sgG_0, RX0, TX0, 13, rfl, rfl, by decide +kernel⟩
theorem wk_0_2 : sg_W 0 2 .int := ⟨sgG_0, RX0, TX0, 13, rfl, rfl, by decide +kernel⟩
theorem wk_0_3 : sg_W 0 3 .int := ⟨sgG_0, RX0, TX0, 13, rfl, rfl, by decide +kernel⟩
theorem wk_0_4 : sg_W 0 4 .int := ⟨sgG_0, RX0, TX0, 13, rfl, rfl, by decide +kernel⟩
theorem wk_0_5 : sg_W 0 5 .int := ⟨sgG_0, RX0, TX0, 13, rfl, rfl, by decide +kernel⟩
theorem wk_2_3 : sg_W 2 3 .int := ⟨sgG_2, RX2, TX2, 7, rfl, rfl, by decide +kernel⟩
theorem wk_2_4 : sg_W 2 4 .int := ⟨sgG_2, RX2, TX2, 7, rfl, rfl, by decide +kernel⟩
theorem wk_2_5 : sg_W 2 5 .int := ⟨sgG_2, RX2, TX2, 7, rfl, rfl, by decide +kernel⟩
theorem wk_2_6 : sg_W 2 6 .int := ⟨sgG_2, RX2, TX2, 7, rfl, rfl, by decide +kernel⟩
theorem wk_3_2 : sg_W 3 2 .int := ⟨sgG_3, RX3, TX3, 3, rfl, rfl, by decide +kernel⟩
theorem wk_4_3 : sg_W 4 3 .int := ⟨sgG_4, RX4, TX4, 6, rfl, rfl, by decide +kernel⟩
theorem wk_4_4 : sg_W 4 4 .int := ⟨sgG_4, RX4, TX4, 6, rfl, rfl, by decide +kernel⟩
theorem wk_4_5 : sg_W 4 5 .int := ⟨sgG_4, RX4, TX4, 6, rfl, rfl, by decide +kernel⟩
theorem wk_5_5 : sg_W 5 5 .int := ⟨sgG_5, RX5, TX5, 6, rfl, rfl, by decide +kernel⟩
theorem wk_6_1 : sg_W 6 1 .int := ⟨sgG_6, RX6, TX6, 7, rfl, rfl, by decide +kernel⟩
theorem wk_6_2 : sg_W 6 2 .int := ⟨sgG_6, RX6, TX6, 7, rfl, rfl, by decide +kernel⟩
theorem wk_6_6 : sg_W 6 6 .boolean := ⟨sgG_6, RX6, TX6, 7, rfl, rfl, by decide +kernel⟩
theorem wk_7_9 : sg_W 7 9 .int := ⟨sgG_7, RX7, TX7, 10, rfl, rfl, by decide +kernel⟩
theorem wk_8_5 : sg_W 8 5 .int := ⟨sgG_8, RX8, TX8, 8, rfl, rfl, by decide +kernel⟩
theorem wk_8_6 : sg_W 8 6 .int := ⟨sgG_8, RX8, TX8, 8, rfl, rfl, by decide +kernel⟩
theorem wk_8_7 : sg_W 8 7 .int := ⟨sgG_8, RX8, TX8, 8, rfl, rfl, by decide +kernel⟩
theorem wk_9_1 : sg_W 9 1 .int := ⟨sgG_9, RX9, TX9, 3, rfl, rfl, by decide +kernel⟩
theorem wk_9_2 : sg_W 9 2 .int := ⟨sgG_9, RX9, TX9, 3, rfl, rfl, by decide +kernel⟩
theorem wk_10_3 : sg_W 10 3 .int := ⟨sgG_10, RX10, TX10, 5, rfl, rfl, by decide +kernel⟩
theorem wk_10_4 : sg_W 10 4 .int := ⟨sgG_10, RX10, TX10, 5, rfl, rfl, by decide +kernel⟩
theorem wk_11_14 : sg_W 11 14 .int := ⟨sgG_11, RX11, TX11, 16, rfl, rfl, by decide +kernel⟩
theorem wk_11_15 : sg_W 11 15 .long := ⟨sgG_11, RX11, TX11, 16, rfl, rfl, by decide +kernel⟩
theorem wk_12_0 : sg_W 12 0 .int := ⟨sgG_12, RX12, TX12, 58, rfl, rfl, by decide +kernel⟩
theorem wk_12_2 : sg_W 12 2 .int := ⟨sgG_12, RX12, TX12, 58, rfl, rfl, by decide +kernel⟩
theorem wk_12_3 : sg_W 12 3 .int := ⟨sgG_12, RX12, TX12, 58, rfl, rfl, by decide +kernel⟩
theorem wk_12_4 : sg_W 12 4 .int := ⟨sgG_12, RX12, TX12, 58, rfl, rfl, by decide +kernel⟩
theorem wk_12_5 : sg_W 12 5 .int := ⟨sgG_12, RX12, TX12, 58, rfl, rfl, by decide +kernel⟩
theorem wk_12_13 : sg_W 12 13 .int := ⟨sgG_12, RX12, TX12, 58, rfl, rfl, by decide +kernel⟩
theorem wk_12_14 : sg_W 12 14 .int := ⟨sgG_12, RX12, TX12, 58, rfl, rfl, by decide +kernel⟩
theorem wk_12_21 : sg_W 12 21 .int := ⟨sgG_12, RX12, TX12, 58, rfl, rfl, by decide +kernel⟩
theorem wk_12_22 : sg_W 12 22 .int := ⟨sgG_12, RX12, TX12, 58, rfl, rfl, by decide +kernel⟩
theorem wk_12_23 : sg_W 12 23 .int := ⟨sgG_12, RX12, TX12, 58, rfl, rfl, by decide +kernel⟩
theorem wk_12_28 : sg_W 12 28 .int := ⟨sgG_12, RX12, TX12, 58, rfl, rfl, by decide +kernel⟩
theorem wk_12_29 : sg_W 12 29 .int := ⟨sgG_12, RX12, TX12, 58, rfl, rfl, by decide +kernel⟩
theorem wk_12_30 : sg_W 12 30 .int := ⟨sgG_12, RX12, TX12, 58, rfl, rfl, by decide +kernel⟩
theorem wk_12_33 : sg_W 12 33 .int := ⟨sgG_12, RX12, TX12, 58, rfl, rfl, by decide +kernel⟩
theorem wk_12_36 : sg_W 12 36 .int := ⟨sgG_12, RX12, TX12, 58, rfl, rfl, by decide +kernel⟩
theorem wk_12_37 : sg_W 12 37 .int := ⟨sgG_12, RX12, TX12, 58, rfl, rfl, by decide +kernel⟩
theorem wk_12_40 : sg_W 12 40 .int := ⟨sgG_12, RX12, TX12, 58, rfl, rfl, by decide +kernel⟩
theorem wk_12_42 : sg_W 12 42 .int := ⟨sgG_12, RX12, TX12, 58, rfl, rfl, by decide +kernel⟩
theorem wk_12_43 : sg_W 12 43 .long := ⟨sgG_12, RX12, TX12, 58, rfl, rfl, by decide +kernel⟩
theorem wk_12_46 : sg_W 12 46 .int := ⟨sgG_12, RX12, TX12, 58, rfl, rfl, by decide +kernel⟩
theorem wk_12_47 : sg_W 12 47 .int := ⟨sgG_12, RX12, TX12, 58, rfl, rfl, by decide +kernel⟩
theorem wk_12_48 : sg_W 12 48 .int := ⟨sgG_12, RX12, TX12, 58, rfl, rfl, by decide +kernel⟩
theorem wk_12_54 : sg_W 12 54 .int := ⟨sgG_12, RX12, TX12, 58, rfl, rfl, by decide +kernel⟩
theorem wk_12_57 : sg_W 12 57 .boolean := ⟨sgG_12, RX12, TX12, 58, rfl, rfl, by decide +kernel⟩
theorem fk_X11_10 : sg_F RX11 10 11 0 := ⟨RX11, TX11, 16, rfl, inlX11, by decide, qw_17⟩
theorem fk_X11_19 : sg_F RX11 19 11 1 := ⟨RX11, TX11, 16, rfl, inlX11, by decide, qw_21⟩
theorem fk_X11_23 : sg_F RX11 23 11 2 := ⟨RX11, TX11, 16, rfl, inlX11, by decide, qw_22⟩
theorem fk_X11_31 : sg_F RX11 31 11 3 := ⟨RX11, TX11, 16, rfl, inlX11, by decide, qw_26⟩
theorem fk_X11_38 : sg_F RX11 38 11 4 := ⟨RX11, TX11, 16, rfl, inlX11, by decide, qw_30⟩
theorem fk_X11_45 : sg_F RX11 45 11 5 := ⟨RX11, TX11, 16, rfl, inlX11, by decide, qw_34⟩
theorem fk_X11_52 : sg_F RX11 52 11 6 := ⟨RX11, TX11, 16, rfl, inlX11, by decide, qw_38⟩
theorem fk_X11_56 : sg_F RX11 56 11 7 := ⟨RX11, TX11, 16, rfl, inlX11, by decide, qw_39⟩
theorem fk_X11_64 : sg_F RX11 64 11 8 := ⟨RX11, TX11, 16, rfl, inlX11, by decide, qw_43⟩
theorem fk_X11_71 : sg_F RX11 71 11 9 := ⟨RX11, TX11, 16, rfl, inlX11, by decide, qw_47⟩
theorem fk_X11_80 : sg_F RX11 80 11 10 := ⟨RX11, TX11, 16, rfl, inlX11, by decide, qw_51⟩
theorem fk_X11_89 : sg_F RX11 89 11 11 := ⟨RX11, TX11, 16, rfl, inlX11, by decide, qw_55⟩
theorem fk_X11_98 : sg_F RX11 98 11 12 := ⟨RX11, TX11, 16, rfl, inlX11, by decide, qw_59⟩
theorem fk_X11_102 : sg_F RX11 102 11 13 := ⟨RX11, TX11, 16, rfl, inlX11, by decide, qw_61⟩
theorem fk_X11_106 : sg_F RX11 106 11 14 := ⟨RX11, TX11, 16, rfl, inlX11, by decide, qw_62⟩
theorem fk_X9_9 : sg_F RX9 9 9 0 := ⟨RX9, TX9, 3, rfl, inlX9, by decide, qw_66⟩
theorem fk_X0_9 : sg_F RX0 9 0 6 := ⟨RX0, TX0, 13, rfl, inlX0, by decide, qw_70⟩
theorem fk_X0_15 : sg_F RX0 15 0 7 := ⟨RX0, TX0, 13, rfl, inlX0, by decide, qw_71⟩
theorem fk_X0_18 : sg_F RX0 18 0 8 := ⟨RX0, TX0, 13, rfl, inlX0, by decide, qw_72⟩
theorem fk_X0_21 : sg_F RX0 21 0 9 := ⟨RX0, TX0, 13, rfl, inlX0, by decide, qw_73⟩
theorem fk_X0_24 : sg_F RX0 24 0 10 := ⟨RX0, TX0, 13, rfl, inlX0, by decide, qw_74⟩
theorem fk_X0_27 : sg_F RX0 27 0 11 := ⟨RX0, TX0, 13, rfl, inlX0, by decide, qw_75⟩
theorem fk_X0_37 : sg_F RX0 37 0 12 := ⟨RX0, TX0, 13, rfl, inlX0, by decide, qw_76⟩
theorem fk_X3_9 : sg_F RX3 9 3 1 := ⟨RX3, TX3, 3, rfl, inlX3, by decide, qw_93⟩
theorem fk_X3_15 : sg_F RX3 15 3 0 := ⟨RX3, TX3, 3, rfl, inlX3, by decide, qw_94⟩
theorem fk_X4_11 : sg_F RX4 11 4 0 := ⟨RX4, TX4, 6, rfl, inlX4, by decide, qw_99⟩
theorem fk_X4_16 : sg_F RX4 16 4 1 := ⟨RX4, TX4, 6, rfl, inlX4, by decide, qw_100⟩
theorem fk_X4_20 : sg_F RX4 20 4 2 := ⟨RX4, TX4, 6, rfl, inlX4, by decide, qw_101⟩
theorem fk_X4_23 : sg_F RX4 23 4 5 := ⟨RX4, TX4, 6, rfl, inlX4, by decide, qw_102⟩
theorem fk_X10_11 : sg_F RX10 11 10 0 := ⟨RX10, TX10, 5, rfl, inlX10, by decide, qw_107⟩
theorem fk_X10_16 : sg_F RX10 16 10 1 := ⟨RX10, TX10, 5, rfl, inlX10, by decide, qw_108⟩
theorem fk_X10_20 : sg_F RX10 20 10 2 := ⟨RX10, TX10, 5, rfl, inlX10, by decide, qw_109⟩
theorem fk_X8_9 : sg_F RX8 9 8 0 := ⟨RX8, TX8, 8, rfl, inlX8, by decide, qw_113⟩
theorem fk_X8_15 : sg_F RX8 15 8 1 := ⟨RX8, TX8, 8, rfl, inlX8, by decide, qw_114⟩
theorem fk_X8_18 : sg_F RX8 18 8 2 := ⟨RX8, TX8, 8, rfl, inlX8, by decide, qw_115⟩
theorem fk_X8_21 : sg_F RX8 21 8 3 := ⟨RX8, TX8, 8, rfl, inlX8, by decide, qw_116⟩
theorem fk_X8_24 : sg_F RX8 24 8 4 := ⟨RX8, TX8, 8, rfl, inlX8, by decide, qw_117⟩
theorem fk_X1_19 : sg_F RX1 19 1 3 := ⟨RX1, TX1, 5, rfl, inlX1, by decide, qw_122⟩
theorem fk_X1_25 : sg_F RX1 25 1 4 := ⟨RX1, TX1, 5, rfl, inlX1, by decide, qw_123⟩
theorem fk_X1_28 : sg_F RX1 28 1 0 := ⟨RX1, TX1, 5, rfl, inlX1, by decide, qw_124⟩
theorem fk_X1_32 : sg_F RX1 32 1 1 := ⟨RX1, TX1, 5, rfl, inlX1, by decide, qw_125⟩
theorem fk_X1_36 : sg_F RX1 36 1 2 := ⟨RX1, TX1, 5, rfl, inlX1, by decide, qw_126⟩
theorem fk_X6_11 : sg_F RX6 11 6 0 := ⟨RX6, TX6, 7, rfl, inlX6, by decide, qw_133⟩
theorem fk_X6_17 : sg_F RX6 17 6 3 := ⟨RX6, TX6, 7, rfl, inlX6, by decide, qw_134⟩
theorem fk_X6_22 : sg_F RX6 22 6 4 := ⟨RX6, TX6, 7, rfl, inlX6, by decide, qw_135⟩
theorem fk_X6_26 : sg_F RX6 26 6 5 := ⟨RX6, TX6, 7, rfl, inlX6, by decide, qw_136⟩
theorem fk_X5_11 : sg_F RX5 11 5 2 := ⟨RX5, TX5, 6, rfl, inlX5, by decide, qw_142⟩
theorem fk_X5_16 : sg_F RX5 16 5 3 := ⟨RX5, TX5, 6, rfl, inlX5, by decide, qw_143⟩
theorem fk_X5_19 : sg_F RX5 19 5 4 := ⟨RX5, TX5, 6, rfl, inlX5, by decide, qw_144⟩
theorem fk_X5_23 : sg_F RX5 23 5 0 := ⟨RX5, TX5, 6, rfl, inlX5, by decide, qw_145⟩
theorem fk_X5_27 : sg_F RX5 27 5 1 := ⟨RX5, TX5, 6, rfl, inlX5, by decide, qw_146⟩
theorem fk_X7_9 : sg_F RX7 9 7 4 := ⟨RX7, TX7, 10, rfl, inlX7, by decide, qw_151⟩
theorem fk_X7_15 : sg_F RX7 15 7 5 := ⟨RX7, TX7, 10, rfl, inlX7, by decide, qw_152⟩
theorem fk_X7_18 : sg_F RX7 18 7 6 := ⟨RX7, TX7, 10, rfl, inlX7, by decide, qw_153⟩
theorem fk_X7_21 : sg_F RX7 21 7 7 := ⟨RX7, TX7, 10, rfl, inlX7, by decide, qw_155⟩
theorem fk_X7_27 : sg_F RX7 27 7 8 := ⟨RX7, TX7, 10, rfl, inlX7, by decide, qw_157⟩
theorem fk_X7_30 : sg_F RX7 30 7 0 := ⟨RX7, TX7, 10, rfl, inlX7, by decide, qw_158⟩
theorem fk_X7_34 : sg_F RX7 34 7 1 := ⟨RX7, TX7, 10, rfl, inlX7, by decide, qw_159⟩
theorem fk_X7_38 : sg_F RX7 38 7 2 := ⟨RX7, TX7, 10, rfl, inlX7, by decide, qw_160⟩
theorem fk_X7_42 : sg_F RX7 42 7 3 := ⟨RX7, TX7, 10, rfl, inlX7, by decide, qw_161⟩
theorem fk_X2_9 : sg_F RX2 9 2 0 := ⟨RX2, TX2, 7, rfl, inlX2, by decide, qw_166⟩
theorem fk_X2_15 : sg_F RX2 15 2 1 := ⟨RX2, TX2, 7, rfl, inlX2, by decide, qw_167⟩
theorem fk_X2_19 : sg_F RX2 19 2 2 := ⟨RX2, TX2, 7, rfl, inlX2, by decide, qw_168⟩
theorem fk_X12_9 : sg_F RX12 9 12 1 := ⟨RX12, TX12, 58, rfl, inlX12, by decide, qw_173⟩
theorem fk_X12_13 : sg_F RX12 13 12 6 := ⟨RX12, TX12, 58, rfl, inlX12, by decide, qw_174⟩
theorem fk_X12_16 : sg_F RX12 16 12 7 := ⟨RX12, TX12, 58, rfl, inlX12, by decide, qw_175⟩
theorem fk_X12_19 : sg_F RX12 19 12 8 := ⟨RX12, TX12, 58, rfl, inlX12, by decide, qw_176⟩
theorem fk_X12_22 : sg_F RX12 22 12 9 := ⟨RX12, TX12, 58, rfl, inlX12, by decide, qw_177⟩
theorem fk_X12_25 : sg_F RX12 25 12 10 := ⟨RX12, TX12, 58, rfl, inlX12, by decide, qw_178⟩
theorem fk_X12_28 : sg_F RX12 28 12 11 := ⟨RX12, TX12, 58, rfl, inlX12, by decide, qw_179⟩
theorem fk_X12_31 : sg_F RX12 31 12 12 := ⟨RX12, TX12, 58, rfl, inlX12, by decide, qw_180⟩
theorem fk_X12_34 : sg_F RX12 34 12 15 := ⟨RX12, TX12, 58, rfl, inlX12, by decide, qw_181⟩
theorem fk_X12_37 : sg_F RX12 37 12 16 := ⟨RX12, TX12, 58, rfl, inlX12, by decide, qw_182⟩
theorem fk_X12_40 : sg_F RX12 40 12 17 := ⟨RX12, TX12, 58, rfl, inlX12, by decide, qw_183⟩
theorem fk_X12_43 : sg_F RX12 43 12 18 := ⟨RX12, TX12, 58, rfl, inlX12, by decide, qw_184⟩
theorem fk_X12_46 : sg_F RX12 46 12 19 := ⟨RX12, TX12, 58, rfl, inlX12, by decide, qw_185⟩
theorem fk_X12_49 : sg_F RX12 49 12 20 := ⟨RX12, TX12, 58, rfl, inlX12, by decide, qw_186⟩
theorem fk_X12_52 : sg_F RX12 52 12 24 := ⟨RX12, TX12, 58, rfl, inlX12, by decide, qw_187⟩
theorem fk_X12_55 : sg_F RX12 55 12 25 := ⟨RX12, TX12, 58, rfl, inlX12, by decide, qw_188⟩
theorem fk_X12_58 : sg_F RX12 58 12 26 := ⟨RX12, TX12, 58, rfl, inlX12, by decide, qw_189⟩
theorem fk_X12_61 : sg_F RX12 61 12 27 := ⟨RX12, TX12, 58, rfl, inlX12, by decide, qw_190⟩
theorem fk_X12_64 : sg_F RX12 64 12 31 := ⟨RX12, TX12, 58, rfl, inlX12, by decide, qw_191⟩
theorem fk_X12_67 : sg_F RX12 67 12 32 := ⟨RX12, TX12, 58, rfl, inlX12, by decide, qw_192⟩
theorem fk_X12_70 : sg_F RX12 70 12 34 := ⟨RX12, TX12, 58, rfl, inlX12, by decide, qw_193⟩
theorem fk_X12_73 : sg_F RX12 73 12 35 := ⟨RX12, TX12, 58, rfl, inlX12, by decide, qw_194⟩
theorem fk_X12_76 : sg_F RX12 76 12 36 := ⟨RX12, TX12, 58, rfl, inlX12, by decide, qw_195⟩
theorem fk_X12_80 : sg_F RX12 80 12 37 := ⟨RX12, TX12, 58, rfl, inlX12, by decide, qw_196⟩
theorem fk_X12_83 : sg_F RX12 83 12 38 := ⟨RX12, TX12, 58, rfl, inlX12, by decide, qw_197⟩
theorem fk_X12_86 : sg_F RX12 86 12 39 := ⟨RX12, TX12, 58, rfl, inlX12, by decide, qw_198⟩
theorem fk_X12_89 : sg_F RX12 89 12 41 := ⟨RX12, TX12, 58, rfl, inlX12, by decide, qw_199⟩
theorem fk_X12_92 : sg_F RX12 92 12 44 := ⟨RX12, TX12, 58, rfl, inlX12, by decide, qw_200⟩
theorem fk_X12_95 : sg_F RX12 95 12 45 := ⟨RX12, TX12, 58, rfl, inlX12, by decide, qw_201⟩
theorem fk_X12_98 : sg_F RX12 98 12 49 := ⟨RX12, TX12, 58, rfl, inlX12, by decide, qw_202⟩
theorem fk_X12_101 : sg_F RX12 101 12 50 := ⟨RX12, TX12, 58, rfl, inlX12, by decide, qw_203⟩
theorem fk_X12_104 : sg_F RX12 104 12 51 := ⟨RX12, TX12, 58, rfl, inlX12, by decide, qw_204⟩
theorem fk_X12_107 : sg_F RX12 107 12 52 := ⟨RX12, TX12, 58, rfl, inlX12, by decide, qw_205⟩
theorem fk_X12_110 : sg_F RX12 110 12 53 := ⟨RX12, TX12, 58, rfl, inlX12, by decide, qw_206⟩
theorem fk_X12_114 : sg_F RX12 114 12 55 := ⟨RX12, TX12, 58, rfl, inlX12, by decide, qw_207⟩
theorem fk_X12_117 : sg_F RX12 117 12 56 := ⟨RX12, TX12, 58, rfl, inlX12, by decide, qw_208⟩
theorem fk_X9_15 : sg_F RX9 15 9 1 := ⟨RX9, TX9, 3, rfl, inlX9, by decide, qw_220⟩
theorem fk_X12_127 : sg_F RX12 127 12 2 := ⟨RX12, TX12, 58, rfl, inlX12, by decide, qw_225⟩
theorem fk_X0_69 : sg_F RX0 69 0 0 := ⟨RX0, TX0, 13, rfl, inlX0, by decide, qw_249⟩
theorem fk_X0_57 : sg_F RX0 57 0 1 := ⟨RX0, TX0, 13, rfl, inlX0, by decide, qw_251⟩
theorem fk_X0_60 : sg_F RX0 60 0 2 := ⟨RX0, TX0, 13, rfl, inlX0, by decide, qw_252⟩
theorem fk_X0_40 : sg_F RX0 40 0 3 := ⟨RX0, TX0, 13, rfl, inlX0, by decide, qw_253⟩
theorem fk_X0_48 : sg_F RX0 48 0 4 := ⟨RX0, TX0, 13, rfl, inlX0, by decide, qw_254⟩
theorem fk_X0_51 : sg_F RX0 51 0 5 := ⟨RX0, TX0, 13, rfl, inlX0, by decide, qw_255⟩
theorem fk_X9_19 : sg_F RX9 19 9 2 := ⟨RX9, TX9, 3, rfl, inlX9, by decide, qw_266⟩
theorem fk_X3_25 : sg_F RX3 25 3 2 := ⟨RX3, TX3, 3, rfl, inlX3, by decide, qw_414⟩
theorem fk_X10_29 : sg_F RX10 29 10 3 := ⟨RX10, TX10, 5, rfl, inlX10, by decide, qw_471⟩
theorem fk_X12_130 : sg_F RX12 130 12 3 := ⟨RX12, TX12, 58, rfl, inlX12, by decide, qw_482⟩
theorem fk_X12_137 : sg_F RX12 137 12 4 := ⟨RX12, TX12, 58, rfl, inlX12, by decide, qw_483⟩
theorem fk_X12_259 : sg_F RX12 259 12 21 := ⟨RX12, TX12, 58, rfl, inlX12, by decide, qw_484⟩
theorem fk_X12_262 : sg_F RX12 262 12 22 := ⟨RX12, TX12, 58, rfl, inlX12, by decide, qw_485⟩
theorem fk_X12_265 : sg_F RX12 265 12 23 := ⟨RX12, TX12, 58, rfl, inlX12, by decide, qw_486⟩
theorem fk_X12_140 : sg_F RX12 140 12 14 := ⟨RX12, TX12, 58, rfl, inlX12, by decide, qw_540⟩
theorem fk_X12_143 : sg_F RX12 143 12 5 := ⟨RX12, TX12, 58, rfl, inlX12, by decide, qw_541⟩
theorem fk_X4_27 : sg_F RX4 27 4 4 := ⟨RX4, TX4, 6, rfl, inlX4, by decide, qw_620⟩
theorem fk_X10_40 : sg_F RX10 40 10 4 := ⟨RX10, TX10, 5, rfl, inlX10, by decide, qw_629⟩
theorem fk_X8_36 : sg_F RX8 36 8 5 := ⟨RX8, TX8, 8, rfl, inlX8, by decide, qw_644⟩
theorem fk_X8_43 : sg_F RX8 43 8 6 := ⟨RX8, TX8, 8, rfl, inlX8, by decide, qw_645⟩
theorem fk_X8_44 : sg_F RX8 44 8 7 := ⟨RX8, TX8, 8, rfl, inlX8, by decide, qw_646⟩
theorem fk_X6_29 : sg_F RX6 29 6 1 := ⟨RX6, TX6, 7, rfl, inlX6, by decide, qw_655⟩
theorem fk_X6_33 : sg_F RX6 33 6 6 := ⟨RX6, TX6, 7, rfl, inlX6, by decide, qw_656⟩
theorem fk_X12_310 : sg_F RX12 310 12 13 := ⟨RX12, TX12, 58, rfl, inlX12, by decide, qw_661⟩
theorem fk_X12_313 : sg_F RX12 313 12 33 := ⟨RX12, TX12, 58, rfl, inlX12, by decide, qw_662⟩
theorem fk_X12_288 : sg_F RX12 288 12 28 := ⟨RX12, TX12, 58, rfl, inlX12, by decide, qw_667⟩
theorem fk_X12_291 : sg_F RX12 291 12 29 := ⟨RX12, TX12, 58, rfl, inlX12, by decide, qw_668⟩
theorem fk_X12_285 : sg_F RX12 285 12 30 := ⟨RX12, TX12, 58, rfl, inlX12, by decide, qw_669⟩
theorem fk_X12_297 : sg_F RX12 297 12 54 := ⟨RX12, TX12, 58, rfl, inlX12, by decide, qw_670⟩
theorem fk_X12_300 : sg_F RX12 300 12 42 := ⟨RX12, TX12, 58, rfl, inlX12, by decide, qw_671⟩
theorem fk_X12_303 : sg_F RX12 303 12 57 := ⟨RX12, TX12, 58, rfl, inlX12, by decide, qw_672⟩
theorem fk_X4_40 : sg_F RX4 40 4 3 := ⟨RX4, TX4, 6, rfl, inlX4, by decide, qw_722⟩
theorem fk_X12_120 : sg_F RX12 120 12 0 := ⟨RX12, TX12, 58, rfl, inlX12, by decide, qw_806⟩
theorem fk_X6_37 : sg_F RX6 37 6 2 := ⟨RX6, TX6, 7, rfl, inlX6, by decide, qw_869⟩
theorem fk_X12_340 : sg_F RX12 340 12 40 := ⟨RX12, TX12, 58, rfl, inlX12, by decide, qw_940⟩
theorem fk_X11_276 : sg_F RX11 276 11 15 := ⟨RX11, TX11, 16, rfl, inlX11, by decide, qw_1034⟩
theorem fk_X12_397 : sg_F RX12 397 12 43 := ⟨RX12, TX12, 58, rfl, inlX12, by decide, qw_1053⟩
theorem fk_X5_49 : sg_F RX5 49 5 5 := ⟨RX5, TX5, 6, rfl, inlX5, by decide, qw_1108⟩
theorem fk_X12_418 : sg_F RX12 418 12 46 := ⟨RX12, TX12, 58, rfl, inlX12, by decide, qw_1163⟩
theorem fk_X12_421 : sg_F RX12 421 12 48 := ⟨RX12, TX12, 58, rfl, inlX12, by decide, qw_1169⟩
theorem fk_X7_46 : sg_F RX7 46 7 9 := ⟨RX7, TX7, 10, rfl, inlX7, by decide, qw_1253⟩
theorem fk_X2_23 : sg_F RX2 23 2 3 := ⟨RX2, TX2, 7, rfl, inlX2, by decide, qw_1327⟩
theorem fk_X2_30 : sg_F RX2 30 2 5 := ⟨RX2, TX2, 7, rfl, inlX2, by decide, qw_1329⟩
theorem fk_X2_33 : sg_F RX2 33 2 6 := ⟨RX2, TX2, 7, rfl, inlX2, by decide, qw_1330⟩
theorem fk_X12_462 : sg_F RX12 462 12 47 := ⟨RX12, TX12, 58, rfl, inlX12, by decide, qw_1340⟩
theorem fk_X2_53 : sg_F RX2 53 2 4 := ⟨RX2, TX2, 7, rfl, inlX2, by decide, qw_1357⟩
theorem fn_X11_114 : sg_FN RX11 114 9 1 := ⟨RX9, TX9, 3, RX11, rfl, inlX9, by decide, List.mem_of_getElem? (i := 0) rfl⟩
theorem fn_X10_23 : sg_FN RX10 23 9 2 := ⟨RX9, TX9, 3, RX11, rfl, inlX9, by decide, List.mem_of_getElem? (i := 1) rfl⟩
theorem fn_X3_19 : sg_FN RX3 19 9 2 := ⟨RX9, TX9, 3, RX11, rfl, inlX9, by decide, List.mem_of_getElem? (i := 2) rfl⟩
theorem fn_X11_125 : sg_FN RX11 125 9 2 := ⟨RX9, TX9, 3, RX11, rfl, inlX9, by decide, List.mem_of_getElem? (i := 3) rfl⟩
theorem fn_X0_75 : sg_FN RX0 75 9 2 := ⟨RX9, TX9, 3, RX11, rfl, inlX9, by decide, List.mem_of_getElem? (i := 4) rfl⟩
theorem fn_X1_134 : sg_FN RX1 134 0 1 := ⟨RX0, TX0, 13, RX11, rfl, inlX0, by decide, List.mem_of_getElem? (i := 5) rfl⟩
theorem fn_X11_175 : sg_FN RX11 175 0 1 := ⟨RX0, TX0, 13, RX11, rfl, inlX0, by decide, List.mem_of_getElem? (i := 6) rfl⟩
theorem fn_X8_40 : sg_FN RX8 40 0 2 := ⟨RX0, TX0, 13, RX11, rfl, inlX0, by decide, List.mem_of_getElem? (i := 7) rfl⟩
theorem fn_X5_52 : sg_FN RX5 52 0 3 := ⟨RX0, TX0, 13, RX11, rfl, inlX0, by decide, List.mem_of_getElem? (i := 8) rfl⟩
theorem fn_X2_44 : sg_FN RX2 44 0 3 := ⟨RX0, TX0, 13, RX11, rfl, inlX0, by decide, List.mem_of_getElem? (i := 9) rfl⟩
theorem fn_X7_91 : sg_FN RX7 91 0 3 := ⟨RX0, TX0, 13, RX11, rfl, inlX0, by decide, List.mem_of_getElem? (i := 10) rfl⟩
theorem fn_X11_169 : sg_FN RX11 169 0 3 := ⟨RX0, TX0, 13, RX11, rfl, inlX0, by decide, List.mem_of_getElem? (i := 11) rfl⟩
theorem fn_X1_59 : sg_FN RX1 59 0 4 := ⟨RX0, TX0, 13, RX11, rfl, inlX0, by decide, List.mem_of_getElem? (i := 12) rfl⟩
theorem fn_X5_87 : sg_FN RX5 87 0 4 := ⟨RX0, TX0, 13, RX11, rfl, inlX0, by decide, List.mem_of_getElem? (i := 13) rfl⟩
theorem fn_X11_289 : sg_FN RX11 289 0 4 := ⟨RX0, TX0, 13, RX11, rfl, inlX0, by decide, List.mem_of_getElem? (i := 14) rfl⟩
theorem fn_X1_102 : sg_FN RX1 102 0 5 := ⟨RX0, TX0, 13, RX11, rfl, inlX0, by decide, List.mem_of_getElem? (i := 15) rfl⟩
theorem fn_X2_60 : sg_FN RX2 60 0 5 := ⟨RX0, TX0, 13, RX11, rfl, inlX0, by decide, List.mem_of_getElem? (i := 16) rfl⟩
theorem fn_X11_292 : sg_FN RX11 292 0 5 := ⟨RX0, TX0, 13, RX11, rfl, inlX0, by decide, List.mem_of_getElem? (i := 17) rfl⟩
theorem fn_X1_89 : sg_FN RX1 89 0 6 := ⟨RX0, TX0, 13, RX11, rfl, inlX0, by decide, List.mem_of_getElem? (i := 18) rfl⟩
theorem fn_X2_73 : sg_FN RX2 73 0 6 := ⟨RX0, TX0, 13, RX11, rfl, inlX0, by decide, List.mem_of_getElem? (i := 19) rfl⟩
theorem fn_X11_227 : sg_FN RX11 227 0 6 := ⟨RX0, TX0, 13, RX11, rfl, inlX0, by decide, List.mem_of_getElem? (i := 20) rfl⟩
theorem fn_X1_92 : sg_FN RX1 92 0 7 := ⟨RX0, TX0, 13, RX11, rfl, inlX0, by decide, List.mem_of_getElem? (i := 21) rfl⟩
theorem fn_X5_90 : sg_FN RX5 90 0 7 := ⟨RX0, TX0, 13, RX11, rfl, inlX0, by decide, List.mem_of_getElem? (i := 22) rfl⟩
theorem fn_X11_184 : sg_FN RX11 184 0 7 := ⟨RX0, TX0, 13, RX11, rfl, inlX0, by decide, List.mem_of_getElem? (i := 23) rfl⟩
theorem fn_X1_95 : sg_FN RX1 95 0 8 := ⟨RX0, TX0, 13, RX11, rfl, inlX0, by decide, List.mem_of_getElem? (i := 24) rfl⟩
theorem fn_X5_93 : sg_FN RX5 93 0 8 := ⟨RX0, TX0, 13, RX11, rfl, inlX0, by decide, List.mem_of_getElem? (i := 25) rfl⟩
theorem fn_X11_187 : sg_FN RX11 187 0 8 := ⟨RX0, TX0, 13, RX11, rfl, inlX0, by decide, List.mem_of_getElem? (i := 26) rfl⟩
theorem fn_X1_81 : sg_FN RX1 81 0 9 := ⟨RX0, TX0, 13, RX11, rfl, inlX0, by decide, List.mem_of_getElem? (i := 27) rfl⟩
theorem fn_X11_190 : sg_FN RX11 190 0 9 := ⟨RX0, TX0, 13, RX11, rfl, inlX0, by decide, List.mem_of_getElem? (i := 28) rfl⟩
theorem fn_X1_83 : sg_FN RX1 83 0 10 := ⟨RX0, TX0, 13, RX11, rfl, inlX0, by decide, List.mem_of_getElem? (i := 29) rfl⟩
theorem fn_X11_193 : sg_FN RX11 193 0 10 := ⟨RX0, TX0, 13, RX11, rfl, inlX0, by decide, List.mem_of_getElem? (i := 30) rfl⟩
theorem fn_X8_27 : sg_FN RX8 27 0 11 := ⟨RX0, TX0, 13, RX11, rfl, inlX0, by decide, List.mem_of_getElem? (i := 31) rfl⟩
theorem fn_X7_57 : sg_FN RX7 57 0 11 := ⟨RX0, TX0, 13, RX11, rfl, inlX0, by decide, List.mem_of_getElem? (i := 32) rfl⟩
theorem fn_X11_140 : sg_FN RX11 140 3 1 := ⟨RX3, TX3, 3, RX11, rfl, inlX3, by decide, List.mem_of_getElem? (i := 33) rfl⟩
theorem fn_X11_143 : sg_FN RX11 143 3 2 := ⟨RX3, TX3, 3, RX11, rfl, inlX3, by decide, List.mem_of_getElem? (i := 34) rfl⟩
theorem fn_X11_154 : sg_FN RX11 154 4 4 := ⟨RX4, TX4, 6, RX11, rfl, inlX4, by decide, List.mem_of_getElem? (i := 35) rfl⟩
theorem fn_X11_233 : sg_FN RX11 233 4 5 := ⟨RX4, TX4, 6, RX11, rfl, inlX4, by decide, List.mem_of_getElem? (i := 36) rfl⟩
theorem fn_X1_121 : sg_FN RX1 121 10 1 := ⟨RX10, TX10, 5, RX11, rfl, inlX10, by decide, List.mem_of_getElem? (i := 37) rfl⟩
theorem fn_X11_239 : sg_FN RX11 239 10 1 := ⟨RX10, TX10, 5, RX11, rfl, inlX10, by decide, List.mem_of_getElem? (i := 38) rfl⟩
theorem fn_X7_50 : sg_FN RX7 50 10 4 := ⟨RX10, TX10, 5, RX11, rfl, inlX10, by decide, List.mem_of_getElem? (i := 39) rfl⟩
theorem fn_X11_157 : sg_FN RX11 157 10 4 := ⟨RX10, TX10, 5, RX11, rfl, inlX10, by decide, List.mem_of_getElem? (i := 40) rfl⟩
theorem fn_X7_85 : sg_FN RX7 85 8 0 := ⟨RX8, TX8, 8, RX11, rfl, inlX8, by decide, List.mem_of_getElem? (i := 41) rfl⟩
theorem fn_X2_63 : sg_FN RX2 63 8 0 := ⟨RX8, TX8, 8, RX11, rfl, inlX8, by decide, List.mem_of_getElem? (i := 42) rfl⟩
theorem fn_X1_127 : sg_FN RX1 127 8 0 := ⟨RX8, TX8, 8, RX11, rfl, inlX8, by decide, List.mem_of_getElem? (i := 43) rfl⟩
theorem fn_X11_215 : sg_FN RX11 215 8 0 := ⟨RX8, TX8, 8, RX11, rfl, inlX8, by decide, List.mem_of_getElem? (i := 44) rfl⟩
theorem fn_X1_109 : sg_FN RX1 109 8 1 := ⟨RX8, TX8, 8, RX11, rfl, inlX8, by decide, List.mem_of_getElem? (i := 45) rfl⟩
theorem fn_X11_218 : sg_FN RX11 218 8 1 := ⟨RX8, TX8, 8, RX11, rfl, inlX8, by decide, List.mem_of_getElem? (i := 46) rfl⟩
theorem fn_X1_118 : sg_FN RX1 118 8 2 := ⟨RX8, TX8, 8, RX11, rfl, inlX8, by decide, List.mem_of_getElem? (i := 47) rfl⟩
theorem fn_X11_221 : sg_FN RX11 221 8 2 := ⟨RX8, TX8, 8, RX11, rfl, inlX8, by decide, List.mem_of_getElem? (i := 48) rfl⟩
theorem fn_X1_86 : sg_FN RX1 86 8 3 := ⟨RX8, TX8, 8, RX11, rfl, inlX8, by decide, List.mem_of_getElem? (i := 49) rfl⟩
theorem fn_X11_203 : sg_FN RX11 203 8 3 := ⟨RX8, TX8, 8, RX11, rfl, inlX8, by decide, List.mem_of_getElem? (i := 50) rfl⟩
theorem fn_X1_151 : sg_FN RX1 151 8 4 := ⟨RX8, TX8, 8, RX11, rfl, inlX8, by decide, List.mem_of_getElem? (i := 51) rfl⟩
theorem fn_X11_230 : sg_FN RX11 230 8 4 := ⟨RX8, TX8, 8, RX11, rfl, inlX8, by decide, List.mem_of_getElem? (i := 52) rfl⟩
theorem fn_X1_44 : sg_FN RX1 44 8 5 := ⟨RX8, TX8, 8, RX11, rfl, inlX8, by decide, List.mem_of_getElem? (i := 53) rfl⟩
theorem fn_X5_43 : sg_FN RX5 43 8 5 := ⟨RX8, TX8, 8, RX11, rfl, inlX8, by decide, List.mem_of_getElem? (i := 54) rfl⟩
theorem fn_X11_206 : sg_FN RX11 206 8 5 := ⟨RX8, TX8, 8, RX11, rfl, inlX8, by decide, List.mem_of_getElem? (i := 55) rfl⟩
theorem fn_X1_154 : sg_FN RX1 154 8 6 := ⟨RX8, TX8, 8, RX11, rfl, inlX8, by decide, List.mem_of_getElem? (i := 56) rfl⟩
theorem fn_X11_178 : sg_FN RX11 178 8 6 := ⟨RX8, TX8, 8, RX11, rfl, inlX8, by decide, List.mem_of_getElem? (i := 57) rfl⟩
theorem fn_X1_56 : sg_FN RX1 56 8 7 := ⟨RX8, TX8, 8, RX11, rfl, inlX8, by decide, List.mem_of_getElem? (i := 58) rfl⟩
theorem fn_X11_249 : sg_FN RX11 249 8 7 := ⟨RX8, TX8, 8, RX11, rfl, inlX8, by decide, List.mem_of_getElem? (i := 59) rfl⟩
theorem fn_X5_60 : sg_FN RX5 60 1 4 := ⟨RX1, TX1, 5, RX11, rfl, inlX1, by decide, List.mem_of_getElem? (i := 60) rfl⟩
theorem fn_X11_200 : sg_FN RX11 200 1 4 := ⟨RX1, TX1, 5, RX11, rfl, inlX1, by decide, List.mem_of_getElem? (i := 61) rfl⟩
theorem fn_X11_406 : sg_FN RX11 406 6 1 := ⟨RX6, TX6, 7, RX11, rfl, inlX6, by decide, List.mem_of_getElem? (i := 62) rfl⟩
theorem fn_X2_40 : sg_FN RX2 40 5 3 := ⟨RX5, TX5, 6, RX11, rfl, inlX5, by decide, List.mem_of_getElem? (i := 63) rfl⟩
theorem fn_X11_316 : sg_FN RX11 316 5 3 := ⟨RX5, TX5, 6, RX11, rfl, inlX5, by decide, List.mem_of_getElem? (i := 64) rfl⟩
theorem fn_X11_168 : sg_FN RX11 168 7 9 := ⟨RX7, TX7, 10, RX11, rfl, inlX7, by decide, List.mem_of_getElem? (i := 65) rfl⟩
theorem fn_X11_349 : sg_FN RX11 349 2 5 := ⟨RX2, TX2, 7, RX11, rfl, inlX2, by decide, List.mem_of_getElem? (i := 66) rfl⟩
theorem fn_X11_352 : sg_FN RX11 352 2 6 := ⟨RX2, TX2, 7, RX11, rfl, inlX2, by decide, List.mem_of_getElem? (i := 67) rfl⟩
theorem ym_J0_length_8abf5 : sg_Y yJ0_length_8abf5 0 := ⟨by decide +kernel, by decide +kernel, by decide +kernel⟩
theorem mk_X0_32 : sg_V RX0 32 RJ0 yJ0_length_8abf5 cJ0_length_8abf5 1 (some .int) 0 := ⟨ym_J0_length_8abf5, qw_77, qw_78, qw_79, qw_80, qw_81, by decide⟩
theorem ym_J0_coder_7d493 : sg_Y yJ0_coder_7d493 0 := ⟨by decide +kernel, by decide +kernel, by decide +kernel⟩
theorem mk_J0_335 : sg_V RJ0 335 RJ0 yJ0_coder_7d493 cJ0_coder_7d493 1 (some .byte) 0 := ⟨ym_J0_coder_7d493, qw_83, qw_84, qw_85, qw_80, qw_86, by decide⟩
theorem mk_X1_13 : sg_V RX1 13 RJ0 yJ0_length_8abf5 cJ0_length_8abf5 1 (some .int) 0 := ⟨ym_J0_length_8abf5, qw_127, qw_78, qw_79, qw_80, qw_81, by decide⟩
theorem ym_X11_feed : sg_Y yX11_feed 5 := ⟨by decide +kernel, by decide +kernel, by decide +kernel⟩
theorem mk_L_19 : sg_V RL 19 RX11 yX11_feed cX11_feed 7 (some .int) 5 := ⟨ym_X11_feed, qw_209, qw_210, qw_211, qw_2, qw_212, by decide⟩
theorem ym_X9_bytesOf : sg_Y yX9_bytesOf 1 := ⟨by decide +kernel, by decide +kernel, by decide +kernel⟩
theorem mk_X11_110 : sg_Sw RX11 110 yX9_bytesOf cX9_bytesOf 3 (some .int) 1 := ⟨ym_X9_bytesOf, qw_213, qw_214, qw_16, qw_215, by decide⟩
theorem ym_X9_append : sg_Y yX9_append 1 := ⟨by decide +kernel, by decide +kernel, by decide +kernel⟩
theorem mk_X11_117 : sg_V RX11 117 RX9 yX9_append cX9_append 4 none 1 := ⟨ym_X9_append, qw_216, qw_217, qw_218, qw_16, qw_219, by decide⟩
theorem ym_X12_feed : sg_Y yX12_feed 5 := ⟨by decide +kernel, by decide +kernel, by decide +kernel⟩
theorem mk_L_23 : sg_V RL 23 RX12 yX12_feed cX12_feed 9 (some .int) 5 := ⟨ym_X12_feed, qw_221, qw_222, qw_223, qw_5, qw_224, by decide⟩
theorem ym_X12_byteOf : sg_Y yX12_byteOf 6 := ⟨by decide +kernel, by decide +kernel, by decide +kernel⟩
theorem mk_X12_123 : sg_Sw RX12 123 yX12_byteOf cX12_byteOf 7 (some .int) 6 := ⟨ym_X12_byteOf, qw_226, qw_227, qw_5, qw_228, by decide⟩
theorem ym_X11_end : sg_Y yX11_end 1 := ⟨by decide +kernel, by decide +kernel, by decide +kernel⟩
theorem mk_L_24 : sg_V RL 24 RX11 yX11_end cX11_end 2 (some .boolean) 1 := ⟨ym_X11_end, qw_229, qw_230, qw_231, qw_2, qw_232, by decide⟩
theorem ym_X12_end : sg_Y yX12_end 1 := ⟨by decide +kernel, by decide +kernel, by decide +kernel⟩
theorem mk_L_28 : sg_V RL 28 RX12 yX12_end cX12_end 2 (some .boolean) 1 := ⟨ym_X12_end, qw_233, qw_234, qw_235, qw_5, qw_236, by decide⟩
theorem ym_X11_fault : sg_Y yX11_fault 1 := ⟨by decide +kernel, by decide +kernel, by decide +kernel⟩
theorem mk_L_29 : sg_V RL 29 RX11 yX11_fault cX11_fault 2 (some .int) 1 := ⟨ym_X11_fault, qw_237, qw_238, qw_239, qw_2, qw_240, by decide⟩
theorem ym_X11_reads : sg_Y yX11_reads 1 := ⟨by decide +kernel, by decide +kernel, by decide +kernel⟩
theorem mk_X11_121 : sg_V RX11 121 RX11 yX11_reads cX11_reads 2 (some .boolean) 1 := ⟨ym_X11_reads, qw_241, qw_242, qw_243, qw_2, qw_244, by decide⟩
theorem ym_X0_readFrom : sg_Y yX0_readFrom 1 := ⟨by decide +kernel, by decide +kernel, by decide +kernel⟩
theorem mk_X11_128 : sg_V RX11 128 RX0 yX0_readFrom cX0_readFrom 3 (some .boolean) 1 := ⟨ym_X0_readFrom, qw_245, qw_246, qw_247, qw_20, qw_248, by decide⟩
theorem ym_X0_readClause : sg_Y yX0_readClause 1 := ⟨by decide +kernel, by decide +kernel, by decide +kernel⟩
theorem mk_X0_80 : sg_V RX0 80 RX0 yX0_readClause cX0_readClause 4 (some .boolean) 1 := ⟨ym_X0_readClause, qw_256, qw_257, qw_258, qw_20, qw_259, by decide⟩
theorem ym_X9_sign : sg_Y yX9_sign 0 := ⟨by decide +kernel, by decide +kernel, by decide +kernel⟩
theorem mk_X0_84 : sg_V RX0 84 RX9 yX9_sign cX9_sign 1 (some .int) 0 := ⟨ym_X9_sign, qw_262, qw_263, qw_264, qw_16, qw_265, by decide⟩
theorem ym_J0_indexOf_0f7a4 : sg_Y yJ0_indexOf_0f7a4 1 := ⟨by decide +kernel, by decide +kernel, by decide +kernel⟩
theorem mk_X0_96 : sg_V RX0 96 RJ0 yJ0_indexOf_0f7a4 cJ0_indexOf_0f7a4 2 (some .int) 1 := ⟨ym_J0_indexOf_0f7a4, qw_267, qw_268, qw_269, qw_80, qw_270, by decide⟩
theorem ym_J0_indexOf_7cf53 : sg_Y yJ0_indexOf_7cf53 2 := ⟨by decide +kernel, by decide +kernel, by decide +kernel⟩
theorem mk_J0_633 : sg_V RJ0 633 RJ0 yJ0_indexOf_7cf53 cJ0_indexOf_7cf53 3 (some .int) 2 := ⟨ym_J0_indexOf_7cf53, qw_271, qw_272, qw_273, qw_80, qw_274, by decide⟩
theorem ym_J0_isLatin1_aae02 : sg_Y yJ0_isLatin1_aae02 0 := ⟨by decide +kernel, by decide +kernel, by decide +kernel⟩
theorem mk_J0_492 : sg_V RJ0 492 RJ0 yJ0_isLatin1_aae02 cJ0_isLatin1_aae02 1 (some .boolean) 0 := ⟨ym_J0_isLatin1_aae02, qw_275, qw_276, qw_277, qw_80, qw_278, by decide⟩
theorem mk_J0_505 : sg_V RJ0 505 RJ0 yJ0_length_8abf5 cJ0_length_8abf5 1 (some .int) 0 := ⟨ym_J0_length_8abf5, qw_279, qw_78, qw_79, qw_80, qw_81, by decide⟩
theorem ym_J1_indexOf_4cfef : sg_Y yJ1_indexOf_4cfef 4 := ⟨by decide +kernel, by decide +kernel, by decide +kernel⟩
theorem mk_J0_637 : sg_Sw RJ0 637 yJ1_indexOf_4cfef cJ1_indexOf_4cfef 4 (some .int) 4 := ⟨ym_J1_indexOf_4cfef, qw_280, qw_281, qw_282, qw_283, by decide⟩
theorem ym_J1_canEncode_9a6ad : sg_Y yJ1_canEncode_9a6ad 1 := ⟨by decide +kernel, by decide +kernel, by decide +kernel⟩
theorem mk_J1_88 : sg_Sw RJ1 88 yJ1_canEncode_9a6ad cJ1_canEncode_9a6ad 1 (some .boolean) 1 := ⟨ym_J1_canEncode_9a6ad, qw_291, qw_292, qw_282, qw_293, by decide⟩
theorem ym_J1_indexOfChar_4cfef : sg_Y yJ1_indexOfChar_4cfef 4 := ⟨by decide +kernel, by decide +kernel, by decide +kernel⟩
theorem mk_J1_95 : sg_Sw RJ1 95 yJ1_indexOfChar_4cfef cJ1_indexOfChar_4cfef 6 (some .int) 4 := ⟨ym_J1_indexOfChar_4cfef, qw_294, qw_295, qw_282, qw_296, by decide⟩
theorem ym_J2_indexOf_4cfef : sg_Y yJ2_indexOf_4cfef 4 := ⟨by decide +kernel, by decide +kernel, by decide +kernel⟩
theorem mk_J0_640 : sg_Sw RJ0 640 yJ2_indexOf_4cfef cJ2_indexOf_4cfef 4 (some .int) 4 := ⟨ym_J2_indexOf_4cfef, qw_297, qw_298, qw_299, qw_300, by decide⟩
theorem ym_J2_indexOfChar_4cfef : sg_Y yJ2_indexOfChar_4cfef 4 := ⟨by decide +kernel, by decide +kernel, by decide +kernel⟩
theorem mk_J2_228 : sg_Sw RJ2 228 yJ2_indexOfChar_4cfef cJ2_indexOfChar_4cfef 4 (some .int) 4 := ⟨ym_J2_indexOfChar_4cfef, qw_304, qw_305, qw_299, qw_306, by decide⟩
theorem ym_J2_checkBoundsBeginEnd_d044e : sg_Y yJ2_checkBoundsBeginEnd_d044e 3 := ⟨by decide +kernel, by decide +kernel, by decide +kernel⟩
theorem mk_J2_96 : sg_Sw RJ2 96 yJ2_checkBoundsBeginEnd_d044e cJ2_checkBoundsBeginEnd_d044e 3 none 3 := ⟨ym_J2_checkBoundsBeginEnd_d044e, qw_307, qw_308, qw_299, qw_309, by decide⟩
theorem ym_J2_length_9d52b : sg_Y yJ2_length_9d52b 1 := ⟨by decide +kernel, by decide +kernel, by decide +kernel⟩
theorem mk_J2_48 : sg_Sw RJ2 48 yJ2_length_9d52b cJ2_length_9d52b 1 (some .int) 1 := ⟨ym_J2_length_9d52b, qw_310, qw_311, qw_299, qw_312, by decide⟩
theorem ym_J0_checkBoundsBeginEnd_23922 : sg_Y yJ0_checkBoundsBeginEnd_23922 3 := ⟨by decide +kernel, by decide +kernel, by decide +kernel⟩
theorem mk_J2_241 : sg_Sw RJ2 241 yJ0_checkBoundsBeginEnd_23922 cJ0_checkBoundsBeginEnd_23922 3 none 3 := ⟨ym_J0_checkBoundsBeginEnd_23922, qw_313, qw_314, qw_80, qw_315, by decide⟩
theorem ym_J3_checkFromToIndex_8c36e : sg_Y yJ3_checkFromToIndex_8c36e 4 := ⟨by decide +kernel, by decide +kernel, by decide +kernel⟩
theorem mk_J0_1062 : sg_Sw RJ0 1062 yJ3_checkFromToIndex_8c36e cJ3_checkFromToIndex_8c36e 4 (some .int) 4 := ⟨ym_J3_checkFromToIndex_8c36e, qw_317, qw_318, qw_319, qw_320, by decide⟩
theorem ym_J2_indexOfCharUnsafe_4cfef : sg_Y yJ2_indexOfCharUnsafe_4cfef 4 := ⟨by decide +kernel, by decide +kernel, by decide +kernel⟩
theorem mk_J2_244 : sg_Sw RJ2 244 yJ2_indexOfCharUnsafe_4cfef cJ2_indexOfCharUnsafe_4cfef 5 (some .int) 4 := ⟨ym_J2_indexOfCharUnsafe_4cfef, qw_321, qw_322, qw_299, qw_323, by decide⟩
theorem ym_J2_getChar_3b067 : sg_Y yJ2_getChar_3b067 2 := ⟨by decide +kernel, by decide +kernel, by decide +kernel⟩
theorem mk_J2_71 : sg_Sw RJ2 71 yJ2_getChar_3b067 cJ2_getChar_3b067 2 (some .char) 2 := ⟨ym_J2_getChar_3b067, qw_324, qw_325, qw_299, qw_326, by decide⟩
theorem ym_J2_indexOfSupplementary_4cfef : sg_Y yJ2_indexOfSupplementary_4cfef 4 := ⟨by decide +kernel, by decide +kernel, by decide +kernel⟩
theorem mk_J2_232 : sg_Sw RJ2 232 yJ2_indexOfSupplementary_4cfef cJ2_indexOfSupplementary_4cfef 7 (some .int) 4 := ⟨ym_J2_indexOfSupplementary_4cfef, qw_330, qw_331, qw_299, qw_332, by decide⟩
theorem ym_J11_isValidCodePoint_9a6ad : sg_Y yJ11_isValidCodePoint_9a6ad 1 := ⟨by decide +kernel, by decide +kernel, by decide +kernel⟩
theorem mk_J2_164 : sg_Sw RJ2 164 yJ11_isValidCodePoint_9a6ad cJ11_isValidCodePoint_9a6ad 2 (some .boolean) 1 := ⟨ym_J11_isValidCodePoint_9a6ad, qw_333, qw_334, qw_335, qw_336, by decide⟩
theorem ym_J11_highSurrogate_5068e : sg_Y yJ11_highSurrogate_5068e 1 := ⟨by decide +kernel, by decide +kernel, by decide +kernel⟩
theorem mk_J2_157 : sg_Sw RJ2 157 yJ11_highSurrogate_5068e cJ11_highSurrogate_5068e 1 (some .char) 1 := ⟨ym_J11_highSurrogate_5068e, qw_337, qw_338, qw_335, qw_339, by decide⟩
theorem ym_J11_lowSurrogate_5068e : sg_Y yJ11_lowSurrogate_5068e 1 := ⟨by decide +kernel, by decide +kernel, by decide +kernel⟩
theorem mk_J2_161 : sg_Sw RJ2 161 yJ11_lowSurrogate_5068e cJ11_lowSurrogate_5068e 1 (some .char) 1 := ⟨ym_J11_lowSurrogate_5068e, qw_341, qw_342, qw_335, qw_343, by decide⟩
theorem ym_X0_clausesOf : sg_Y yX0_clausesOf 1 := ⟨by decide +kernel, by decide +kernel, by decide +kernel⟩
theorem mk_X0_100 : sg_V RX0 100 RX0 yX0_clausesOf cX0_clausesOf 2 (some .int) 1 := ⟨ym_X0_clausesOf, qw_345, qw_346, qw_347, qw_20, qw_348, by decide⟩
theorem ym_X0_readItems : sg_Y yX0_readItems 3 := ⟨by decide +kernel, by decide +kernel, by decide +kernel⟩
theorem mk_X0_109 : sg_V RX0 109 RX0 yX0_readItems cX0_readItems 8 (some .boolean) 3 := ⟨ym_X0_readItems, qw_349, qw_350, qw_351, qw_20, qw_352, by decide⟩
theorem ym_X0_itemOf : sg_Y yX0_itemOf 3 := ⟨by decide +kernel, by decide +kernel, by decide +kernel⟩
theorem mk_X0_117 : sg_Sw RX0 117 yX0_itemOf cX0_itemOf 4 (some .int) 3 := ⟨ym_X0_itemOf, qw_353, qw_354, qw_20, qw_355, by decide⟩
theorem ym_J0_charAt_5068e : sg_Y yJ0_charAt_5068e 1 := ⟨by decide +kernel, by decide +kernel, by decide +kernel⟩
theorem mk_X0_125 : sg_V RX0 125 RJ0 yJ0_charAt_5068e cJ0_charAt_5068e 2 (some .char) 1 := ⟨ym_J0_charAt_5068e, qw_356, qw_357, qw_358, qw_80, qw_359, by decide⟩
theorem ym_J1_charAt_3b067 : sg_Y yJ1_charAt_3b067 2 := ⟨by decide +kernel, by decide +kernel, by decide +kernel⟩
theorem mk_J0_495 : sg_Sw RJ0 495 yJ1_charAt_3b067 cJ1_charAt_3b067 2 (some .char) 2 := ⟨ym_J1_charAt_3b067, qw_360, qw_361, qw_282, qw_362, by decide⟩
theorem ym_J0_checkIndex_df160 : sg_Y yJ0_checkIndex_df160 2 := ⟨by decide +kernel, by decide +kernel, by decide +kernel⟩
theorem mk_J1_9 : sg_Sw RJ1 9 yJ0_checkIndex_df160 cJ0_checkIndex_df160 2 none 2 := ⟨ym_J0_checkIndex_df160, qw_363, qw_364, qw_80, qw_365, by decide⟩
theorem ym_J3_checkIndex_8e157 : sg_Y yJ3_checkIndex_8e157 3 := ⟨by decide +kernel, by decide +kernel, by decide +kernel⟩
theorem mk_J0_1059 : sg_Sw RJ0 1059 yJ3_checkIndex_8e157 cJ3_checkIndex_8e157 3 (some .int) 3 := ⟨ym_J3_checkIndex_8e157, qw_366, qw_367, qw_319, qw_368, by decide⟩
theorem ym_J2_charAt_3b067 : sg_Y yJ2_charAt_3b067 2 := ⟨by decide +kernel, by decide +kernel, by decide +kernel⟩
theorem mk_J0_498 : sg_Sw RJ0 498 yJ2_charAt_3b067 cJ2_charAt_3b067 2 (some .char) 2 := ⟨ym_J2_charAt_3b067, qw_369, qw_370, qw_299, qw_371, by decide⟩
theorem ym_J2_checkIndex_2214a : sg_Y yJ2_checkIndex_2214a 2 := ⟨by decide +kernel, by decide +kernel, by decide +kernel⟩
theorem mk_J2_67 : sg_Sw RJ2 67 yJ2_checkIndex_2214a cJ2_checkIndex_2214a 2 none 2 := ⟨ym_J2_checkIndex_2214a, qw_372, qw_373, qw_299, qw_374, by decide⟩
theorem mk_J2_414 : sg_Sw RJ2 414 yJ0_checkIndex_df160 cJ0_checkIndex_df160 2 none 2 := ⟨ym_J0_checkIndex_df160, qw_375, qw_364, qw_80, qw_365, by decide⟩
theorem ym_X0_readNumber : sg_Y yX0_readNumber 2 := ⟨by decide +kernel, by decide +kernel, by decide +kernel⟩
theorem mk_X0_121 : sg_V RX0 121 RX0 yX0_readNumber cX0_readNumber 4 (some .boolean) 2 := ⟨ym_X0_readNumber, qw_376, qw_377, qw_378, qw_20, qw_379, by decide⟩
theorem ym_X9_isDigit : sg_Y yX9_isDigit 1 := ⟨by decide +kernel, by decide +kernel, by decide +kernel⟩
theorem mk_X0_129 : sg_Sw RX0 129 yX9_isDigit cX9_isDigit 1 (some .boolean) 1 := ⟨ym_X9_isDigit, qw_382, qw_383, qw_16, qw_384, by decide⟩
theorem ym_X9_number : sg_Y yX9_number 1 := ⟨by decide +kernel, by decide +kernel, by decide +kernel⟩
theorem mk_X0_132 : sg_V RX0 132 RX9 yX9_number cX9_number 4 (some .int) 1 := ⟨ym_X9_number, qw_385, qw_386, qw_387, qw_16, qw_388, by decide⟩
theorem ym_X0_keepClause : sg_Y yX0_keepClause 1 := ⟨by decide +kernel, by decide +kernel, by decide +kernel⟩
theorem mk_X0_113 : sg_V RX0 113 RX0 yX0_keepClause cX0_keepClause 2 none 1 := ⟨ym_X0_keepClause, qw_389, qw_390, qw_391, qw_20, qw_392, by decide⟩
theorem ym_X0_isWhole : sg_Y yX0_isWhole 0 := ⟨by decide +kernel, by decide +kernel, by decide +kernel⟩
theorem mk_X0_87 : sg_V RX0 87 RX0 yX0_isWhole cX0_isWhole 2 (some .boolean) 0 := ⟨ym_X0_isWhole, qw_393, qw_394, qw_395, qw_20, qw_396, by decide⟩
theorem ym_X0_hasPlaces : sg_Y yX0_hasPlaces 2 := ⟨by decide +kernel, by decide +kernel, by decide +kernel⟩
theorem mk_X0_141 : sg_V RX0 141 RX0 yX0_hasPlaces cX0_hasPlaces 3 (some .boolean) 2 := ⟨ym_X0_hasPlaces, qw_397, qw_398, qw_399, qw_20, qw_400, by decide⟩
theorem ym_X0_hasPlace : sg_Y yX0_hasPlace 1 := ⟨by decide +kernel, by decide +kernel, by decide +kernel⟩
theorem mk_X0_44 : sg_V RX0 44 RX0 yX0_hasPlace cX0_hasPlace 2 (some .boolean) 1 := ⟨ym_X0_hasPlace, qw_401, qw_402, qw_403, qw_20, qw_404, by decide⟩
theorem ym_X9_takes : sg_Y yX9_takes 1 := ⟨by decide +kernel, by decide +kernel, by decide +kernel⟩
theorem mk_X0_91 : sg_V RX0 91 RX9 yX9_takes cX9_takes 2 (some .boolean) 1 := ⟨ym_X9_takes, qw_405, qw_406, qw_407, qw_16, qw_408, by decide⟩
theorem mk_X9_22 : sg_V RX9 22 RX9 yX9_sign cX9_sign 1 (some .int) 0 := ⟨ym_X9_sign, qw_409, qw_263, qw_264, qw_16, qw_265, by decide⟩
theorem ym_X3_readLaw : sg_Y yX3_readLaw 0 := ⟨by decide +kernel, by decide +kernel, by decide +kernel⟩
theorem mk_X11_132 : sg_V RX11 132 RX3 yX3_readLaw cX3_readLaw 2 (some .boolean) 0 := ⟨ym_X3_readLaw, qw_410, qw_411, qw_412, qw_25, qw_413, by decide⟩
theorem ym_X3_readClause : sg_Y yX3_readClause 0 := ⟨by decide +kernel, by decide +kernel, by decide +kernel⟩
theorem mk_X3_28 : sg_V RX3 28 RX3 yX3_readClause cX3_readClause 2 (some .boolean) 0 := ⟨ym_X3_readClause, qw_415, qw_416, qw_417, qw_25, qw_418, by decide⟩
theorem mk_X3_36 : sg_V RX3 36 RX9 yX9_takes cX9_takes 2 (some .boolean) 1 := ⟨ym_X9_takes, qw_419, qw_406, qw_407, qw_16, qw_408, by decide⟩
theorem mk_X3_32 : sg_V RX3 32 RX9 yX9_sign cX9_sign 1 (some .int) 0 := ⟨ym_X9_sign, qw_420, qw_263, qw_264, qw_16, qw_265, by decide⟩
theorem ym_X3_readCondition : sg_Y yX3_readCondition 1 := ⟨by decide +kernel, by decide +kernel, by decide +kernel⟩
theorem mk_X3_40 : sg_V RX3 40 RX3 yX3_readCondition cX3_readCondition 2 (some .boolean) 1 := ⟨ym_X3_readCondition, qw_421, qw_422, qw_423, qw_25, qw_424, by decide⟩
theorem ym_X3_readUnit : sg_Y yX3_readUnit 1 := ⟨by decide +kernel, by decide +kernel, by decide +kernel⟩
theorem mk_X3_63 : sg_V RX3 63 RX3 yX3_readUnit cX3_readUnit 3 (some .boolean) 1 := ⟨ym_X3_readUnit, qw_425, qw_426, qw_427, qw_25, qw_440, by decide⟩
theorem ym_X3_goOnCondition : sg_Y yX3_goOnCondition 1 := ⟨by decide +kernel, by decide +kernel, by decide +kernel⟩
theorem mk_X3_60 : sg_V RX3 60 RX3 yX3_goOnCondition cX3_goOnCondition 3 (some .boolean) 1 := ⟨ym_X3_goOnCondition, qw_428, qw_429, qw_430, qw_25, qw_431, by decide⟩
theorem ym_X3_goOnTruth : sg_Y yX3_goOnTruth 1 := ⟨by decide +kernel, by decide +kernel, by decide +kernel⟩
theorem mk_X3_66 : sg_V RX3 66 RX3 yX3_goOnTruth cX3_goOnTruth 3 (some .boolean) 1 := ⟨ym_X3_goOnTruth, qw_432, qw_433, qw_434, qw_25, qw_439, by decide⟩
theorem ym_X3_emit : sg_Y yX3_emit 1 := ⟨by decide +kernel, by decide +kernel, by decide +kernel⟩
theorem mk_X3_54 : sg_V RX3 54 RX3 yX3_emit cX3_emit 2 (some .boolean) 1 := ⟨ym_X3_emit, qw_435, qw_436, qw_437, qw_25, qw_438, by decide⟩
theorem ym_X3_readSum : sg_Y yX3_readSum 1 := ⟨by decide +kernel, by decide +kernel, by decide +kernel⟩
theorem mk_X3_46 : sg_V RX3 46 RX3 yX3_readSum cX3_readSum 4 (some .boolean) 1 := ⟨ym_X3_readSum, qw_441, qw_442, qw_443, qw_25, qw_444, by decide⟩
theorem ym_X3_readTerm : sg_Y yX3_readTerm 1 := ⟨by decide +kernel, by decide +kernel, by decide +kernel⟩
theorem mk_X3_69 : sg_V RX3 69 RX3 yX3_readTerm cX3_readTerm 4 (some .boolean) 1 := ⟨ym_X3_readTerm, qw_445, qw_446, qw_447, qw_25, qw_452, by decide⟩
theorem mk_X3_75 : sg_Sw RX3 75 yX9_isDigit cX9_isDigit 1 (some .boolean) 1 := ⟨ym_X9_isDigit, qw_449, qw_383, qw_16, qw_384, by decide⟩
theorem mk_X3_78 : sg_V RX3 78 RX9 yX9_number cX9_number 4 (some .int) 1 := ⟨ym_X9_number, qw_450, qw_386, qw_387, qw_16, qw_388, by decide⟩
theorem mk_X3_84 : sg_V RX3 84 RJ0 yJ0_indexOf_0f7a4 cJ0_indexOf_0f7a4 2 (some .int) 1 := ⟨ym_J0_indexOf_0f7a4, qw_451, qw_268, qw_269, qw_80, qw_270, by decide⟩
theorem ym_X3_readAtom : sg_Y yX3_readAtom 1 := ⟨by decide +kernel, by decide +kernel, by decide +kernel⟩
theorem mk_X3_72 : sg_V RX3 72 RX3 yX3_readAtom cX3_readAtom 4 (some .boolean) 1 := ⟨ym_X3_readAtom, qw_453, qw_454, qw_455, qw_25, qw_448, by decide⟩
theorem ym_X3_goOnComparison : sg_Y yX3_goOnComparison 1 := ⟨by decide +kernel, by decide +kernel, by decide +kernel⟩
theorem mk_X3_57 : sg_V RX3 57 RX3 yX3_goOnComparison cX3_goOnComparison 3 (some .boolean) 1 := ⟨ym_X3_goOnComparison, qw_456, qw_457, qw_458, qw_25, qw_459, by decide⟩
theorem ym_X3_isComparison : sg_Y yX3_isComparison 1 := ⟨by decide +kernel, by decide +kernel, by decide +kernel⟩
theorem mk_X3_49 : sg_Sw RX3 49 yX3_isComparison cX3_isComparison 1 (some .boolean) 1 := ⟨ym_X3_isComparison, qw_460, qw_461, qw_25, qw_462, by decide⟩
theorem ym_X3_readWorth : sg_Y yX3_readWorth 0 := ⟨by decide +kernel, by decide +kernel, by decide +kernel⟩
theorem mk_X3_43 : sg_V RX3 43 RX3 yX3_readWorth cX3_readWorth 1 (some .boolean) 0 := ⟨ym_X3_readWorth, qw_463, qw_464, qw_465, qw_25, qw_466, by decide⟩
theorem ym_X10_readFrom : sg_Y yX10_readFrom 1 := ⟨by decide +kernel, by decide +kernel, by decide +kernel⟩
theorem mk_X11_136 : sg_V RX11 136 RX10 yX10_readFrom cX10_readFrom 4 (some .boolean) 1 := ⟨ym_X10_readFrom, qw_467, qw_468, qw_469, qw_33, qw_470, by decide⟩
theorem mk_X10_32 : sg_V RX10 32 RX9 yX9_sign cX9_sign 1 (some .int) 0 := ⟨ym_X9_sign, qw_472, qw_263, qw_264, qw_16, qw_265, by decide⟩
theorem mk_X10_36 : sg_Sw RX10 36 yX9_isDigit cX9_isDigit 1 (some .boolean) 1 := ⟨ym_X9_isDigit, qw_473, qw_383, qw_16, qw_384, by decide⟩
theorem ym_X12_fault : sg_Y yX12_fault 1 := ⟨by decide +kernel, by decide +kernel, by decide +kernel⟩
theorem mk_L_33 : sg_V RL 33 RX12 yX12_fault cX12_fault 2 (some .int) 1 := ⟨ym_X12_fault, qw_474, qw_475, qw_476, qw_5, qw_477, by decide⟩
theorem ym_X12_readCounty : sg_Y yX12_readCounty 0 := ⟨by decide +kernel, by decide +kernel, by decide +kernel⟩
theorem mk_X12_276 : sg_V RX12 276 RX12 yX12_readCounty cX12_readCounty 4 (some .int) 0 := ⟨ym_X12_readCounty, qw_478, qw_479, qw_480, qw_5, qw_481, by decide⟩
theorem ym_X12_usual : sg_Y yX12_usual 2 := ⟨by decide +kernel, by decide +kernel, by decide +kernel⟩
theorem mk_X12_239 : sg_Sw RX12 239 yX12_usual cX12_usual 2 (some .int) 2 := ⟨ym_X12_usual, qw_487, qw_488, qw_5, qw_489, by decide⟩
theorem ym_X12_look : sg_Y yX12_look 0 := ⟨by decide +kernel, by decide +kernel, by decide +kernel⟩
theorem mk_X12_149 : sg_V RX12 149 RX12 yX12_look cX12_look 1 (some .int) 0 := ⟨ym_X12_look, qw_490, qw_491, qw_492, qw_5, qw_493, by decide⟩
theorem ym_X12_here : sg_Y yX12_here 0 := ⟨by decide +kernel, by decide +kernel, by decide +kernel⟩
theorem mk_X12_133 : sg_V RX12 133 RX12 yX12_here cX12_here 1 (some .int) 0 := ⟨ym_X12_here, qw_494, qw_495, qw_496, qw_5, qw_497, by decide⟩
theorem ym_X12_items : sg_Y yX12_items 4 := ⟨by decide +kernel, by decide +kernel, by decide +kernel⟩
theorem mk_X12_268 : sg_V RX12 268 RX12 yX12_items cX12_items 7 none 4 := ⟨ym_X12_items, qw_498, qw_499, qw_500, qw_5, qw_501, by decide⟩
theorem ym_X12_itemOf : sg_Y yX12_itemOf 2 := ⟨by decide +kernel, by decide +kernel, by decide +kernel⟩
theorem mk_X12_243 : sg_Sw RX12 243 yX12_itemOf cX12_itemOf 2 (some .int) 2 := ⟨ym_X12_itemOf, qw_502, qw_503, qw_5, qw_504, by decide⟩
theorem ym_X12_has : sg_Y yX12_has 2 := ⟨by decide +kernel, by decide +kernel, by decide +kernel⟩
theorem mk_X12_246 : sg_Sw RX12 246 yX12_has cX12_has 2 (some .boolean) 2 := ⟨ym_X12_has, qw_505, qw_506, qw_5, qw_507, by decide⟩
theorem ym_X12_lowest : sg_Y yX12_lowest 2 := ⟨by decide +kernel, by decide +kernel, by decide +kernel⟩
theorem mk_X12_250 : sg_Sw RX12 250 yX12_lowest cX12_lowest 2 (some .int) 2 := ⟨ym_X12_lowest, qw_508, qw_509, qw_5, qw_510, by decide⟩
theorem ym_X12_highest : sg_Y yX12_highest 2 := ⟨by decide +kernel, by decide +kernel, by decide +kernel⟩
theorem mk_X12_253 : sg_Sw RX12 253 yX12_highest cX12_highest 2 (some .int) 2 := ⟨ym_X12_highest, qw_511, qw_512, qw_5, qw_513, by decide⟩
theorem ym_X12_number : sg_Y yX12_number 2 := ⟨by decide +kernel, by decide +kernel, by decide +kernel⟩
theorem mk_X12_256 : sg_V RX12 256 RX12 yX12_number cX12_number 4 (some .int) 2 := ⟨ym_X12_number, qw_514, qw_515, qw_516, qw_5, qw_517, by decide⟩
theorem ym_X12_isDigit : sg_Y yX12_isDigit 1 := ⟨by decide +kernel, by decide +kernel, by decide +kernel⟩
theorem mk_X12_152 : sg_Sw RX12 152 yX12_isDigit cX12_isDigit 1 (some .boolean) 1 := ⟨ym_X12_isDigit, qw_518, qw_519, qw_5, qw_520, by decide⟩
theorem ym_X12_bad : sg_Y yX12_bad 0 := ⟨by decide +kernel, by decide +kernel, by decide +kernel⟩
theorem mk_X12_146 : sg_V RX12 146 RX12 yX12_bad cX12_bad 1 none 0 := ⟨ym_X12_bad, qw_521, qw_522, qw_523, qw_5, qw_524, by decide⟩
theorem ym_X12_in : sg_Y yX12_in 3 := ⟨by decide +kernel, by decide +kernel, by decide +kernel⟩
theorem mk_X12_235 : sg_Sw RX12 235 yX12_in cX12_in 3 (some .boolean) 3 := ⟨ym_X12_in, qw_525, qw_526, qw_5, qw_527, by decide⟩
theorem ym_X12_isWhole : sg_Y yX12_isWhole 0 := ⟨by decide +kernel, by decide +kernel, by decide +kernel⟩
theorem mk_X12_272 : sg_V RX12 272 RX12 yX12_isWhole cX12_isWhole 5 (some .boolean) 0 := ⟨ym_X12_isWhole, qw_528, qw_529, qw_530, qw_5, qw_531, by decide⟩
theorem ym_X12_readLaw : sg_Y yX12_readLaw 1 := ⟨by decide +kernel, by decide +kernel, by decide +kernel⟩
theorem mk_X12_279 : sg_V RX12 279 RX12 yX12_readLaw cX12_readLaw 2 (some .int) 1 := ⟨ym_X12_readLaw, qw_532, qw_533, qw_534, qw_5, qw_535, by decide⟩
theorem ym_X12_open : sg_Y yX12_open 1 := ⟨by decide +kernel, by decide +kernel, by decide +kernel⟩
theorem mk_X12_201 : sg_V RX12 201 RX12 yX12_open cX12_open 2 none 1 := ⟨ym_X12_open, qw_536, qw_537, qw_538, qw_5, qw_539, by decide⟩
theorem ym_X12_clause : sg_Y yX12_clause 0 := ⟨by decide +kernel, by decide +kernel, by decide +kernel⟩
theorem mk_X12_204 : sg_V RX12 204 RX12 yX12_clause cX12_clause 3 none 0 := ⟨ym_X12_clause, qw_542, qw_543, qw_544, qw_5, qw_545, by decide⟩
theorem ym_X12_condition : sg_Y yX12_condition 0 := ⟨by decide +kernel, by decide +kernel, by decide +kernel⟩
theorem mk_X12_189 : sg_V RX12 189 RX12 yX12_condition cX12_condition 1 none 0 := ⟨ym_X12_condition, qw_546, qw_547, qw_548, qw_5, qw_549, by decide⟩
theorem ym_X12_unit : sg_Y yX12_unit 0 := ⟨by decide +kernel, by decide +kernel, by decide +kernel⟩
theorem mk_X12_186 : sg_V RX12 186 RX12 yX12_unit cX12_unit 2 none 0 := ⟨ym_X12_unit, qw_550, qw_551, qw_552, qw_5, qw_565, by decide⟩
theorem ym_X12_goOnAnd : sg_Y yX12_goOnAnd 0 := ⟨by decide +kernel, by decide +kernel, by decide +kernel⟩
theorem mk_X12_195 : sg_V RX12 195 RX12 yX12_goOnAnd cX12_goOnAnd 1 none 0 := ⟨ym_X12_goOnAnd, qw_553, qw_554, qw_555, qw_5, qw_559, by decide⟩
theorem ym_X12_goOnOr : sg_Y yX12_goOnOr 0 := ⟨by decide +kernel, by decide +kernel, by decide +kernel⟩
theorem mk_X12_198 : sg_V RX12 198 RX12 yX12_goOnOr cX12_goOnOr 1 none 0 := ⟨ym_X12_goOnOr, qw_556, qw_557, qw_558, qw_5, qw_564, by decide⟩
theorem ym_X12_put : sg_Y yX12_put 2 := ⟨by decide +kernel, by decide +kernel, by decide +kernel⟩
theorem mk_X12_159 : sg_V RX12 159 RX12 yX12_put cX12_put 3 none 2 := ⟨ym_X12_put, qw_560, qw_561, qw_562, qw_5, qw_563, by decide⟩
theorem ym_X12_opens : sg_Y yX12_opens 0 := ⟨by decide +kernel, by decide +kernel, by decide +kernel⟩
theorem mk_X12_167 : sg_V RX12 167 RX12 yX12_opens cX12_opens 1 none 0 := ⟨ym_X12_opens, qw_566, qw_567, qw_568, qw_5, qw_569, by decide⟩
theorem ym_X12_closes : sg_Y yX12_closes 1 := ⟨by decide +kernel, by decide +kernel, by decide +kernel⟩
theorem mk_X12_173 : sg_V RX12 173 RX12 yX12_closes cX12_closes 2 none 1 := ⟨ym_X12_closes, qw_570, qw_571, qw_572, qw_5, qw_573, by decide⟩
theorem ym_X12_sum : sg_Y yX12_sum 0 := ⟨by decide +kernel, by decide +kernel, by decide +kernel⟩
theorem mk_X12_170 : sg_V RX12 170 RX12 yX12_sum cX12_sum 2 none 0 := ⟨ym_X12_sum, qw_574, qw_575, qw_576, qw_5, qw_577, by decide⟩
theorem ym_X12_term : sg_Y yX12_term 0 := ⟨by decide +kernel, by decide +kernel, by decide +kernel⟩
theorem mk_X12_180 : sg_V RX12 180 RX12 yX12_term cX12_term 2 none 0 := ⟨ym_X12_term, qw_578, qw_579, qw_580, qw_5, qw_589, by decide⟩
theorem ym_X12_plainNumber : sg_Y yX12_plainNumber 0 := ⟨by decide +kernel, by decide +kernel, by decide +kernel⟩
theorem mk_X12_156 : sg_V RX12 156 RX12 yX12_plainNumber cX12_plainNumber 3 (some .int) 0 := ⟨ym_X12_plainNumber, qw_582, qw_583, qw_584, qw_5, qw_585, by decide⟩
theorem ym_X12_letterOf : sg_Y yX12_letterOf 1 := ⟨by decide +kernel, by decide +kernel, by decide +kernel⟩
theorem mk_X12_163 : sg_Sw RX12 163 yX12_letterOf cX12_letterOf 1 (some .int) 1 := ⟨ym_X12_letterOf, qw_586, qw_587, qw_5, qw_588, by decide⟩
theorem ym_X12_atom : sg_Y yX12_atom 0 := ⟨by decide +kernel, by decide +kernel, by decide +kernel⟩
theorem mk_X12_177 : sg_V RX12 177 RX12 yX12_atom cX12_atom 2 none 0 := ⟨ym_X12_atom, qw_590, qw_591, qw_592, qw_5, qw_581, by decide⟩
theorem ym_X12_compare : sg_Y yX12_compare 0 := ⟨by decide +kernel, by decide +kernel, by decide +kernel⟩
theorem mk_X12_192 : sg_V RX12 192 RX12 yX12_compare cX12_compare 2 none 0 := ⟨ym_X12_compare, qw_593, qw_594, qw_595, qw_5, qw_596, by decide⟩
theorem ym_X12_isSign : sg_Y yX12_isSign 1 := ⟨by decide +kernel, by decide +kernel, by decide +kernel⟩
theorem mk_X12_183 : sg_Sw RX12 183 yX12_isSign cX12_isSign 1 (some .boolean) 1 := ⟨ym_X12_isSign, qw_597, qw_598, qw_5, qw_599, by decide⟩
theorem ym_X12_atEnd : sg_Y yX12_atEnd 0 := ⟨by decide +kernel, by decide +kernel, by decide +kernel⟩
theorem mk_X12_207 : sg_V RX12 207 RX12 yX12_atEnd cX12_atEnd 1 (some .int) 0 := ⟨ym_X12_atEnd, qw_600, qw_601, qw_602, qw_5, qw_603, by decide⟩
theorem ym_X12_readWay : sg_Y yX12_readWay 1 := ⟨by decide +kernel, by decide +kernel, by decide +kernel⟩
theorem mk_X12_282 : sg_V RX12 282 RX12 yX12_readWay cX12_readWay 2 (some .int) 1 := ⟨ym_X12_readWay, qw_604, qw_605, qw_606, qw_5, qw_607, by decide⟩
theorem ym_X11_text : sg_Y yX11_text 1 := ⟨by decide +kernel, by decide +kernel, by decide +kernel⟩
theorem mk_L_34 : sg_V RL 34 RX11 yX11_text cX11_text 2 (some .int) 1 := ⟨ym_X11_text, qw_608, qw_609, qw_610, qw_2, qw_611, by decide⟩
theorem ym_X11_hasRoomFor : sg_Y yX11_hasRoomFor 1 := ⟨by decide +kernel, by decide +kernel, by decide +kernel⟩
theorem mk_X11_137 : sg_V RX11 137 RX11 yX11_hasRoomFor cX11_hasRoomFor 2 (some .boolean) 1 := ⟨ym_X11_hasRoomFor, qw_612, qw_613, qw_614, qw_2, qw_615, by decide⟩
theorem ym_X4_keep : sg_Y yX4_keep 2 := ⟨by decide +kernel, by decide +kernel, by decide +kernel⟩
theorem mk_X11_144 : sg_V RX11 144 RX4 yX4_keep cX4_keep 3 (some .int) 2 := ⟨ym_X4_keep, qw_616, qw_617, qw_618, qw_29, qw_619, by decide⟩
theorem ym_X10_keep : sg_Y yX10_keep 0 := ⟨by decide +kernel, by decide +kernel, by decide +kernel⟩
theorem mk_X11_148 : sg_V RX11 148 RX10 yX10_keep cX10_keep 1 (some .int) 0 := ⟨ym_X10_keep, qw_625, qw_626, qw_627, qw_33, qw_628, by decide⟩
theorem ym_X11_beginCounty : sg_Y yX11_beginCounty 0 := ⟨by decide +kernel, by decide +kernel, by decide +kernel⟩
theorem mk_X11_151 : sg_V RX11 151 RX11 yX11_beginCounty cX11_beginCounty 1 (some .int) 0 := ⟨ym_X11_beginCounty, qw_631, qw_632, qw_633, qw_2, qw_634, by decide⟩
theorem ym_X0_copyFrom : sg_Y yX0_copyFrom 1 := ⟨by decide +kernel, by decide +kernel, by decide +kernel⟩
theorem mk_X11_158 : sg_V RX11 158 RX0 yX0_copyFrom cX0_copyFrom 2 none 1 := ⟨ym_X0_copyFrom, qw_635, qw_636, qw_637, qw_20, qw_638, by decide⟩
theorem ym_X8_begin : sg_Y yX8_begin 1 := ⟨by decide +kernel, by decide +kernel, by decide +kernel⟩
theorem mk_X11_162 : sg_V RX11 162 RX8 yX8_begin cX8_begin 3 none 1 := ⟨ym_X8_begin, qw_640, qw_641, qw_642, qw_37, qw_643, by decide⟩
theorem ym_X8_takeWay : sg_Y yX8_takeWay 1 := ⟨by decide +kernel, by decide +kernel, by decide +kernel⟩
theorem mk_X8_32 : sg_V RX8 32 RX8 yX8_takeWay cX8_takeWay 2 none 1 := ⟨ym_X8_takeWay, qw_647, qw_648, qw_649, qw_37, qw_650, by decide⟩
theorem ym_X6_forget : sg_Y yX6_forget 0 := ⟨by decide +kernel, by decide +kernel, by decide +kernel⟩
theorem mk_X11_165 : sg_V RX11 165 RX6 yX6_forget cX6_forget 1 none 0 := ⟨ym_X6_forget, qw_651, qw_652, qw_653, qw_46, qw_654, by decide⟩
theorem ym_X12_text : sg_Y yX12_text 1 := ⟨by decide +kernel, by decide +kernel, by decide +kernel⟩
theorem mk_L_37 : sg_V RL 37 RX12 yX12_text cX12_text 2 (some .int) 1 := ⟨ym_X12_text, qw_657, qw_658, qw_659, qw_5, qw_660, by decide⟩
theorem ym_X12_takeCounty : sg_Y yX12_takeCounty 0 := ⟨by decide +kernel, by decide +kernel, by decide +kernel⟩
theorem mk_X12_307 : sg_V RX12 307 RX12 yX12_takeCounty cX12_takeCounty 2 (some .int) 0 := ⟨ym_X12_takeCounty, qw_663, qw_664, qw_665, qw_5, qw_666, by decide⟩
theorem ym_X12_layTold : sg_Y yX12_layTold 0 := ⟨by decide +kernel, by decide +kernel, by decide +kernel⟩
theorem mk_X12_294 : sg_V RX12 294 RX12 yX12_layTold cX12_layTold 2 none 0 := ⟨ym_X12_layTold, qw_673, qw_674, qw_675, qw_5, qw_676, by decide⟩
theorem ym_X11_rule : sg_Y yX11_rule 1 := ⟨by decide +kernel, by decide +kernel, by decide +kernel⟩
theorem mk_L_38 : sg_V RL 38 RX11 yX11_rule cX11_rule 2 (some .int) 1 := ⟨ym_X11_rule, qw_677, qw_678, qw_679, qw_2, qw_680, by decide⟩
theorem ym_X0_isTold : sg_Y yX0_isTold 0 := ⟨by decide +kernel, by decide +kernel, by decide +kernel⟩
theorem mk_X11_172 : sg_V RX11 172 RX0 yX0_isTold cX0_isTold 1 (some .boolean) 0 := ⟨ym_X0_isTold, qw_681, qw_682, qw_683, qw_20, qw_684, by decide⟩
theorem ym_X12_rule : sg_Y yX12_rule 1 := ⟨by decide +kernel, by decide +kernel, by decide +kernel⟩
theorem mk_L_41 : sg_V RL 41 RX12 yX12_rule cX12_rule 2 (some .int) 1 := ⟨ym_X12_rule, qw_685, qw_686, qw_687, qw_5, qw_688, by decide⟩
theorem ym_X11_road : sg_Y yX11_road 2 := ⟨by decide +kernel, by decide +kernel, by decide +kernel⟩
theorem mk_L_42 : sg_V RL 42 RX11 yX11_road cX11_road 3 (some .int) 2 := ⟨ym_X11_road, qw_689, qw_690, qw_691, qw_2, qw_692, by decide⟩
theorem ym_X0_hasRoad : sg_Y yX0_hasRoad 1 := ⟨by decide +kernel, by decide +kernel, by decide +kernel⟩
theorem mk_X11_181 : sg_V RX11 181 RX0 yX0_hasRoad cX0_hasRoad 2 (some .boolean) 1 := ⟨ym_X0_hasRoad, qw_693, qw_694, qw_695, qw_20, qw_696, by decide⟩
theorem ym_X1_measure : sg_Y yX1_measure 1 := ⟨by decide +kernel, by decide +kernel, by decide +kernel⟩
theorem mk_X11_196 : sg_V RX11 196 RX1 yX1_measure cX1_measure 4 none 1 := ⟨ym_X1_measure, qw_697, qw_698, qw_699, qw_42, qw_700, by decide⟩
theorem ym_X4_oneHolds : sg_Y yX4_oneHolds 0 := ⟨by decide +kernel, by decide +kernel, by decide +kernel⟩
theorem mk_X1_40 : sg_V RX1 40 RX4 yX4_oneHolds cX4_oneHolds 1 (some .boolean) 0 := ⟨ym_X4_oneHolds, qw_703, qw_704, qw_705, qw_29, qw_706, by decide⟩
theorem ym_J6_bitCount_0f7a4 : sg_Y yJ6_bitCount_0f7a4 1 := ⟨by decide +kernel, by decide +kernel, by decide +kernel⟩
theorem mk_X1_50 : sg_Sw RX1 50 yJ6_bitCount_0f7a4 cJ6_bitCount_0f7a4 1 (some .int) 1 := ⟨ym_J6_bitCount_0f7a4, qw_707, qw_708, qw_709, qw_710, by decide⟩
theorem ym_X1_tellLetters : sg_Y yX1_tellLetters 2 := ⟨by decide +kernel, by decide +kernel, by decide +kernel⟩
theorem mk_X1_64 : sg_V RX1 64 RX1 yX1_tellLetters cX1_tellLetters 3 none 2 := ⟨ym_X1_tellLetters, qw_714, qw_715, qw_716, qw_42, qw_717, by decide⟩
theorem ym_X4_worth : sg_Y yX4_worth 1 := ⟨by decide +kernel, by decide +kernel, by decide +kernel⟩
theorem mk_X1_68 : sg_V RX1 68 RX4 yX4_worth cX4_worth 7 (some .int) 1 := ⟨ym_X4_worth, qw_718, qw_719, qw_720, qw_29, qw_721, by decide⟩
theorem mk_X4_36 : sg_V RX4 36 RX4 yX4_oneHolds cX4_oneHolds 1 (some .boolean) 0 := ⟨ym_X4_oneHolds, qw_723, qw_704, qw_705, qw_29, qw_706, by decide⟩
theorem ym_X4_push : sg_Y yX4_push 1 := ⟨by decide +kernel, by decide +kernel, by decide +kernel⟩
theorem mk_X4_43 : sg_V RX4 43 RX4 yX4_push cX4_push 2 none 1 := ⟨ym_X4_push, qw_724, qw_725, qw_726, qw_29, qw_727, by decide⟩
theorem ym_X4_pop : sg_Y yX4_pop 0 := ⟨by decide +kernel, by decide +kernel, by decide +kernel⟩
theorem mk_X4_47 : sg_V RX4 47 RX4 yX4_pop cX4_pop 1 (some .int) 0 := ⟨ym_X4_pop, qw_728, qw_729, qw_730, qw_29, qw_731, by decide⟩
theorem ym_X4_join : sg_Y yX4_join 3 := ⟨by decide +kernel, by decide +kernel, by decide +kernel⟩
theorem mk_X4_51 : sg_Sw RX4 51 yX4_join cX4_join 3 (some .int) 3 := ⟨ym_X4_join, qw_732, qw_733, qw_29, qw_734, by decide⟩
theorem ym_X4_hold : sg_Y yX4_hold 1 := ⟨by decide +kernel, by decide +kernel, by decide +kernel⟩
theorem mk_X4_55 : sg_Sw RX4 55 yX4_hold cX4_hold 2 (some .int) 1 := ⟨ym_X4_hold, qw_735, qw_736, qw_29, qw_737, by decide⟩
theorem ym_X12_road : sg_Y yX12_road 2 := ⟨by decide +kernel, by decide +kernel, by decide +kernel⟩
theorem mk_L_45 : sg_V RL 45 RX12 yX12_road cX12_road 3 (some .int) 2 := ⟨ym_X12_road, qw_742, qw_743, qw_744, qw_5, qw_745, by decide⟩
theorem ym_X12_isRoad : sg_Y yX12_isRoad 1 := ⟨by decide +kernel, by decide +kernel, by decide +kernel⟩
theorem mk_X12_367 : sg_V RX12 367 RX12 yX12_isRoad cX12_isRoad 2 (some .boolean) 1 := ⟨ym_X12_isRoad, qw_746, qw_747, qw_748, qw_5, qw_749, by decide⟩
theorem ym_X12_longBy : sg_Y yX12_longBy 1 := ⟨by decide +kernel, by decide +kernel, by decide +kernel⟩
theorem mk_X12_331 : sg_V RX12 331 RX12 yX12_longBy cX12_longBy 3 (some .int) 1 := ⟨ym_X12_longBy, qw_750, qw_751, qw_752, qw_5, qw_753, by decide⟩
theorem ym_X12_of : sg_Y yX12_of 2 := ⟨by decide +kernel, by decide +kernel, by decide +kernel⟩
theorem mk_X12_316 : sg_V RX12 316 RX12 yX12_of cX12_of 3 (some .int) 2 := ⟨ym_X12_of, qw_756, qw_757, qw_758, qw_5, qw_759, by decide⟩
theorem mk_X12_319 : sg_Sw RX12 319 yJ6_bitCount_0f7a4 cJ6_bitCount_0f7a4 1 (some .int) 1 := ⟨ym_J6_bitCount_0f7a4, qw_760, qw_708, qw_709, qw_710, by decide⟩
theorem ym_X12_worthOf : sg_Y yX12_worthOf 1 := ⟨by decide +kernel, by decide +kernel, by decide +kernel⟩
theorem mk_X12_324 : sg_V RX12 324 RX12 yX12_worthOf cX12_worthOf 3 (some .int) 1 := ⟨ym_X12_worthOf, qw_761, qw_762, qw_763, qw_5, qw_764, by decide⟩
theorem ym_X12_workOut : sg_Y yX12_workOut 3 := ⟨by decide +kernel, by decide +kernel, by decide +kernel⟩
theorem mk_X12_231 : sg_V RX12 231 RX12 yX12_workOut cX12_workOut 6 (some .int) 3 := ⟨ym_X12_workOut, qw_765, qw_766, qw_767, qw_5, qw_768, by decide⟩
theorem ym_X12_worked : sg_Y yX12_worked 3 := ⟨by decide +kernel, by decide +kernel, by decide +kernel⟩
theorem mk_X12_227 : sg_Sw RX12 227 yX12_worked cX12_worked 5 (some .int) 3 := ⟨ym_X12_worked, qw_769, qw_770, qw_5, qw_771, by decide⟩
theorem ym_X12_bounded : sg_Y yX12_bounded 1 := ⟨by decide +kernel, by decide +kernel, by decide +kernel⟩
theorem mk_X12_223 : sg_Sw RX12 223 yX12_bounded cX12_bounded 2 (some .int) 1 := ⟨ym_X12_bounded, qw_772, qw_773, qw_5, qw_774, by decide⟩
theorem ym_X12_isClosed : sg_Y yX12_isClosed 1 := ⟨by decide +kernel, by decide +kernel, by decide +kernel⟩
theorem mk_X12_334 : sg_V RX12 334 RX12 yX12_isClosed cX12_isClosed 2 (some .boolean) 1 := ⟨ym_X12_isClosed, qw_783, qw_784, qw_785, qw_5, qw_786, by decide⟩
theorem ym_X11_wheels : sg_Y yX11_wheels 2 := ⟨by decide +kernel, by decide +kernel, by decide +kernel⟩
theorem mk_L_7 : sg_V RL 7 RX11 yX11_wheels cX11_wheels 3 (some .int) 2 := ⟨ym_X11_wheels, qw_792, qw_793, qw_794, qw_2, qw_795, by decide⟩
theorem ym_X0_hasSet : sg_Y yX0_hasSet 1 := ⟨by decide +kernel, by decide +kernel, by decide +kernel⟩
theorem mk_X11_209 : sg_V RX11 209 RX0 yX0_hasSet cX0_hasSet 2 (some .boolean) 1 := ⟨ym_X0_hasSet, qw_798, qw_799, qw_800, qw_20, qw_801, by decide⟩
theorem ym_X12_wheels : sg_Y yX12_wheels 2 := ⟨by decide +kernel, by decide +kernel, by decide +kernel⟩
theorem mk_L_51 : sg_V RL 51 RX12 yX12_wheels cX12_wheels 3 (some .int) 2 := ⟨ym_X12_wheels, qw_802, qw_803, qw_804, qw_5, qw_805, by decide⟩
theorem ym_X12_isSet : sg_Y yX12_isSet 1 := ⟨by decide +kernel, by decide +kernel, by decide +kernel⟩
theorem mk_X12_370 : sg_V RX12 370 RX12 yX12_isSet cX12_isSet 2 (some .boolean) 1 := ⟨ym_X12_isSet, qw_807, qw_808, qw_809, qw_5, qw_810, by decide⟩
theorem ym_X12_thrown : sg_Y yX12_thrown 0 := ⟨by decide +kernel, by decide +kernel, by decide +kernel⟩
theorem mk_L_52 : sg_V RL 52 RX12 yX12_thrown cX12_thrown 1 (some .int) 0 := ⟨ym_X12_thrown, qw_811, qw_812, qw_813, qw_5, qw_814, by decide⟩
theorem ym_X11_spot : sg_Y yX11_spot 2 := ⟨by decide +kernel, by decide +kernel, by decide +kernel⟩
theorem mk_L_56 : sg_V RL 56 RX11 yX11_spot cX11_spot 3 (some .int) 2 := ⟨ym_X11_spot, qw_815, qw_816, qw_817, qw_2, qw_818, by decide⟩
theorem mk_X11_224 : sg_V RX11 224 RX0 yX0_hasPlace cX0_hasPlace 2 (some .boolean) 1 := ⟨ym_X0_hasPlace, qw_819, qw_402, qw_403, qw_20, qw_404, by decide⟩
theorem ym_X12_spot : sg_Y yX12_spot 2 := ⟨by decide +kernel, by decide +kernel, by decide +kernel⟩
theorem mk_L_59 : sg_V RL 59 RX12 yX12_spot cX12_spot 3 (some .int) 2 := ⟨ym_X12_spot, qw_820, qw_821, qw_822, qw_5, qw_823, by decide⟩
theorem ym_X12_isPlace : sg_Y yX12_isPlace 1 := ⟨by decide +kernel, by decide +kernel, by decide +kernel⟩
theorem mk_X12_373 : sg_V RX12 373 RX12 yX12_isPlace cX12_isPlace 2 (some .boolean) 1 := ⟨ym_X12_isPlace, qw_824, qw_825, qw_826, qw_5, qw_827, by decide⟩
theorem ym_X11_law : sg_Y yX11_law 1 := ⟨by decide +kernel, by decide +kernel, by decide +kernel⟩
theorem mk_L_60 : sg_V RL 60 RX11 yX11_law cX11_law 2 (some .boolean) 1 := ⟨ym_X11_law, qw_828, qw_829, qw_830, qw_2, qw_831, by decide⟩
theorem ym_X12_law : sg_Y yX12_law 1 := ⟨by decide +kernel, by decide +kernel, by decide +kernel⟩
theorem mk_L_63 : sg_V RL 63 RX12 yX12_law cX12_law 2 (some .boolean) 1 := ⟨ym_X12_law, qw_832, qw_833, qw_834, qw_5, qw_835, by decide⟩
theorem ym_X11_walked : sg_Y yX11_walked 2 := ⟨by decide +kernel, by decide +kernel, by decide +kernel⟩
theorem mk_L_64 : sg_V RL 64 RX11 yX11_walked cX11_walked 3 (some .int) 2 := ⟨ym_X11_walked, qw_836, qw_837, qw_838, qw_2, qw_839, by decide⟩
theorem ym_X10_has : sg_Y yX10_has 1 := ⟨by decide +kernel, by decide +kernel, by decide +kernel⟩
theorem mk_X11_236 : sg_V RX11 236 RX10 yX10_has cX10_has 2 (some .boolean) 1 := ⟨ym_X10_has, qw_840, qw_841, qw_842, qw_33, qw_843, by decide⟩
theorem ym_X10_placeAt : sg_Y yX10_placeAt 2 := ⟨by decide +kernel, by decide +kernel, by decide +kernel⟩
theorem mk_X11_242 : sg_V RX11 242 RX10 yX10_placeAt cX10_placeAt 3 (some .int) 2 := ⟨ym_X10_placeAt, qw_844, qw_845, qw_846, qw_33, qw_847, by decide⟩
theorem mk_X10_49 : sg_V RX10 49 RX10 yX10_has cX10_has 2 (some .boolean) 1 := ⟨ym_X10_has, qw_848, qw_841, qw_842, qw_33, qw_843, by decide⟩
theorem ym_X12_walked : sg_Y yX12_walked 2 := ⟨by decide +kernel, by decide +kernel, by decide +kernel⟩
theorem mk_L_67 : sg_V RL 67 RX12 yX12_walked cX12_walked 3 (some .int) 2 := ⟨ym_X12_walked, qw_849, qw_850, qw_851, qw_5, qw_852, by decide⟩
theorem ym_X12_isWay : sg_Y yX12_isWay 1 := ⟨by decide +kernel, by decide +kernel, by decide +kernel⟩
theorem mk_X12_376 : sg_V RX12 376 RX12 yX12_isWay cX12_isWay 2 (some .boolean) 1 := ⟨ym_X12_isWay, qw_853, qw_854, qw_855, qw_5, qw_856, by decide⟩
theorem ym_X11_days : sg_Y yX11_days 1 := ⟨by decide +kernel, by decide +kernel, by decide +kernel⟩
theorem mk_L_68 : sg_V RL 68 RX11 yX11_days cX11_days 3 (some .int) 1 := ⟨ym_X11_days, qw_857, qw_858, qw_859, qw_2, qw_860, by decide⟩
theorem ym_X11_refuse : sg_Y yX11_refuse 1 := ⟨by decide +kernel, by decide +kernel, by decide +kernel⟩
theorem mk_X11_246 : sg_V RX11 246 RX11 yX11_refuse cX11_refuse 2 (some .int) 1 := ⟨ym_X11_refuse, qw_861, qw_862, qw_863, qw_2, qw_864, by decide⟩
theorem ym_X6_remember : sg_Y yX6_remember 1 := ⟨by decide +kernel, by decide +kernel, by decide +kernel⟩
theorem mk_X11_252 : sg_V RX11 252 RX6 yX6_remember cX6_remember 2 none 1 := ⟨ym_X6_remember, qw_865, qw_866, qw_867, qw_46, qw_868, by decide⟩
theorem ym_X8_copyFrom : sg_Y yX8_copyFrom 1 := ⟨by decide +kernel, by decide +kernel, by decide +kernel⟩
theorem mk_X6_40 : sg_V RX6 40 RX8 yX8_copyFrom cX8_copyFrom 2 none 1 := ⟨ym_X8_copyFrom, qw_871, qw_872, qw_873, qw_37, qw_874, by decide⟩
theorem ym_X11_passDay : sg_Y yX11_passDay 0 := ⟨by decide +kernel, by decide +kernel, by decide +kernel⟩
theorem mk_X11_255 : sg_V RX11 255 RX11 yX11_passDay cX11_passDay 2 none 0 := ⟨ym_X11_passDay, qw_876, qw_877, qw_878, qw_2, qw_879, by decide⟩
theorem ym_X1_pass : sg_Y yX1_pass 1 := ⟨by decide +kernel, by decide +kernel, by decide +kernel⟩
theorem mk_X11_258 : sg_V RX11 258 RX1 yX1_pass cX1_pass 4 (some .int) 1 := ⟨ym_X1_pass, qw_880, qw_881, qw_882, qw_42, qw_883, by decide⟩
theorem mk_X1_98 : sg_V RX1 98 RX1 yX1_measure cX1_measure 4 none 1 := ⟨ym_X1_measure, qw_884, qw_698, qw_699, qw_42, qw_700, by decide⟩
theorem ym_X1_passOf : sg_Y yX1_passOf 2 := ⟨by decide +kernel, by decide +kernel, by decide +kernel⟩
theorem mk_X1_105 : sg_V RX1 105 RX1 yX1_passOf cX1_passOf 9 (some .int) 2 := ⟨ym_X1_passOf, qw_885, qw_886, qw_887, qw_42, qw_888, by decide⟩
theorem mk_X1_112 : sg_V RX1 112 RX10 yX10_has cX10_has 2 (some .boolean) 1 := ⟨ym_X10_has, qw_889, qw_841, qw_842, qw_33, qw_843, by decide⟩
theorem mk_X1_124 : sg_V RX1 124 RX10 yX10_placeAt cX10_placeAt 3 (some .int) 2 := ⟨ym_X10_placeAt, qw_890, qw_845, qw_846, qw_33, qw_847, by decide⟩
theorem ym_X1_shortestBetween : sg_Y yX1_shortestBetween 3 := ⟨by decide +kernel, by decide +kernel, by decide +kernel⟩
theorem mk_X1_130 : sg_V RX1 130 RX1 yX1_shortestBetween cX1_shortestBetween 7 (some .int) 3 := ⟨ym_X1_shortestBetween, qw_891, qw_892, qw_893, qw_42, qw_894, by decide⟩
theorem ym_X0_isBetween : sg_Y yX0_isBetween 3 := ⟨by decide +kernel, by decide +kernel, by decide +kernel⟩
theorem mk_X1_144 : sg_V RX1 144 RX0 yX0_isBetween cX0_isBetween 4 (some .boolean) 3 := ⟨ym_X0_isBetween, qw_895, qw_896, qw_897, qw_20, qw_898, by decide⟩
theorem ym_X1_callAt : sg_Y yX1_callAt 2 := ⟨by decide +kernel, by decide +kernel, by decide +kernel⟩
theorem mk_X1_137 : sg_V RX1 137 RX1 yX1_callAt cX1_callAt 3 none 2 := ⟨ym_X1_callAt, qw_899, qw_900, qw_901, qw_42, qw_902, by decide⟩
theorem mk_X1_148 : sg_V RX1 148 RX0 yX0_hasPlace cX0_hasPlace 2 (some .boolean) 1 := ⟨ym_X0_hasPlace, qw_903, qw_402, qw_403, qw_20, qw_404, by decide⟩
theorem mk_X1_140 : sg_V RX1 140 RX8 yX8_takeWay cX8_takeWay 2 none 1 := ⟨ym_X8_takeWay, qw_904, qw_648, qw_649, qw_37, qw_650, by decide⟩
theorem ym_X8_setsOnWay : sg_Y yX8_setsOnWay 0 := ⟨by decide +kernel, by decide +kernel, by decide +kernel⟩
theorem mk_X11_262 : sg_V RX11 262 RX8 yX8_setsOnWay cX8_setsOnWay 3 (some .int) 0 := ⟨ym_X8_setsOnWay, qw_905, qw_906, qw_907, qw_37, qw_908, by decide⟩
theorem ym_X6_note : sg_Y yX6_note 4 := ⟨by decide +kernel, by decide +kernel, by decide +kernel⟩
theorem mk_X11_265 : sg_V RX11 265 RX6 yX6_note cX6_note 6 none 4 := ⟨ym_X6_note, qw_909, qw_910, qw_911, qw_46, qw_912, by decide⟩
theorem ym_X6_rowOf : sg_Y yX6_rowOf 1 := ⟨by decide +kernel, by decide +kernel, by decide +kernel⟩
theorem mk_X6_53 : sg_Sw RX6 53 yX6_rowOf cX6_rowOf 1 (some .int) 1 := ⟨ym_X6_rowOf, qw_913, qw_914, qw_46, qw_915, by decide⟩
theorem ym_J9_floorMod_7cf53 : sg_Y yJ9_floorMod_7cf53 2 := ⟨by decide +kernel, by decide +kernel, by decide +kernel⟩
theorem mk_X6_50 : sg_Sw RX6 50 yJ9_floorMod_7cf53 cJ9_floorMod_7cf53 3 (some .int) 2 := ⟨ym_J9_floorMod_7cf53, qw_916, qw_917, qw_918, qw_919, by decide⟩
theorem ym_X12_days : sg_Y yX12_days 1 := ⟨by decide +kernel, by decide +kernel, by decide +kernel⟩
theorem mk_L_71 : sg_V RL 71 RX12 yX12_days cX12_days 3 (some .int) 1 := ⟨ym_X12_days, qw_920, qw_921, qw_922, qw_5, qw_923, by decide⟩
theorem ym_X12_areDays : sg_Y yX12_areDays 1 := ⟨by decide +kernel, by decide +kernel, by decide +kernel⟩
theorem mk_X12_379 : sg_V RX12 379 RX12 yX12_areDays cX12_areDays 2 (some .boolean) 1 := ⟨ym_X12_areDays, qw_924, qw_925, qw_926, qw_5, qw_927, by decide⟩
theorem ym_X12_isRefused : sg_Y yX12_isRefused 1 := ⟨by decide +kernel, by decide +kernel, by decide +kernel⟩
theorem mk_X12_382 : sg_V RX12 382 RX12 yX12_isRefused cX12_isRefused 2 (some .boolean) 1 := ⟨ym_X12_isRefused, qw_928, qw_929, qw_930, qw_5, qw_931, by decide⟩
theorem ym_X12_keep : sg_Y yX12_keep 0 := ⟨by decide +kernel, by decide +kernel, by decide +kernel⟩
theorem mk_X12_385 : sg_V RX12 385 RX12 yX12_keep cX12_keep 2 none 0 := ⟨ym_X12_keep, qw_932, qw_933, qw_934, qw_5, qw_935, by decide⟩
theorem ym_X12_passDay : sg_Y yX12_passDay 0 := ⟨by decide +kernel, by decide +kernel, by decide +kernel⟩
theorem mk_X12_388 : sg_V RX12 388 RX12 yX12_passDay cX12_passDay 2 none 0 := ⟨ym_X12_passDay, qw_936, qw_937, qw_938, qw_5, qw_939, by decide⟩
theorem ym_X12_live : sg_Y yX12_live 0 := ⟨by decide +kernel, by decide +kernel, by decide +kernel⟩
theorem mk_X12_361 : sg_V RX12 361 RX12 yX12_live cX12_live 2 none 0 := ⟨ym_X12_live, qw_941, qw_942, qw_943, qw_5, qw_944, by decide⟩
theorem ym_X12_layLongs : sg_Y yX12_layLongs 0 := ⟨by decide +kernel, by decide +kernel, by decide +kernel⟩
theorem mk_X12_355 : sg_V RX12 355 RX12 yX12_layLongs cX12_layLongs 2 none 0 := ⟨ym_X12_layLongs, qw_945, qw_946, qw_947, qw_5, qw_948, by decide⟩
theorem ym_X12_goOn : sg_Y yX12_goOn 1 := ⟨by decide +kernel, by decide +kernel, by decide +kernel⟩
theorem mk_X12_358 : sg_V RX12 358 RX12 yX12_goOn cX12_goOn 6 none 1 := ⟨ym_X12_goOn, qw_949, qw_950, qw_951, qw_5, qw_952, by decide⟩
theorem ym_X12_nextIn : sg_Y yX12_nextIn 1 := ⟨by decide +kernel, by decide +kernel, by decide +kernel⟩
theorem mk_X12_343 : sg_V RX12 343 RX12 yX12_nextIn cX12_nextIn 2 (some .int) 1 := ⟨ym_X12_nextIn, qw_953, qw_954, qw_955, qw_5, qw_956, by decide⟩
theorem ym_X12_roadBetween : sg_Y yX12_roadBetween 2 := ⟨by decide +kernel, by decide +kernel, by decide +kernel⟩
theorem mk_X12_346 : sg_V RX12 346 RX12 yX12_roadBetween cX12_roadBetween 5 (some .int) 2 := ⟨ym_X12_roadBetween, qw_957, qw_958, qw_959, qw_5, qw_960, by decide⟩
theorem ym_X12_joins : sg_Y yX12_joins 3 := ⟨by decide +kernel, by decide +kernel, by decide +kernel⟩
theorem mk_X12_337 : sg_V RX12 337 RX12 yX12_joins cX12_joins 4 (some .boolean) 3 := ⟨ym_X12_joins, qw_961, qw_962, qw_963, qw_5, qw_964, by decide⟩
theorem ym_X12_callAt : sg_Y yX12_callAt 1 := ⟨by decide +kernel, by decide +kernel, by decide +kernel⟩
theorem mk_X12_349 : sg_V RX12 349 RX12 yX12_callAt cX12_callAt 2 none 1 := ⟨ym_X12_callAt, qw_965, qw_966, qw_967, qw_5, qw_968, by decide⟩
theorem ym_X12_dropWay : sg_Y yX12_dropWay 1 := ⟨by decide +kernel, by decide +kernel, by decide +kernel⟩
theorem mk_X12_352 : sg_V RX12 352 RX12 yX12_dropWay cX12_dropWay 2 none 1 := ⟨ym_X12_dropWay, qw_969, qw_970, qw_971, qw_5, qw_972, by decide⟩
theorem ym_X12_onWay : sg_Y yX12_onWay 0 := ⟨by decide +kernel, by decide +kernel, by decide +kernel⟩
theorem mk_X12_364 : sg_V RX12 364 RX12 yX12_onWay cX12_onWay 3 (some .int) 0 := ⟨ym_X12_onWay, qw_973, qw_974, qw_975, qw_5, qw_976, by decide⟩
theorem ym_X11_puts : sg_Y yX11_puts 2 := ⟨by decide +kernel, by decide +kernel, by decide +kernel⟩
theorem mk_L_72 : sg_V RL 72 RX11 yX11_puts cX11_puts 3 (some .int) 2 := ⟨ym_X11_puts, qw_977, qw_978, qw_979, qw_2, qw_980, by decide⟩
theorem ym_X8_putTo : sg_Y yX8_putTo 2 := ⟨by decide +kernel, by decide +kernel, by decide +kernel⟩
theorem mk_X11_269 : sg_V RX11 269 RX8 yX8_putTo cX8_putTo 3 none 2 := ⟨ym_X8_putTo, qw_981, qw_982, qw_983, qw_37, qw_984, by decide⟩
theorem ym_X12_puts : sg_Y yX12_puts 2 := ⟨by decide +kernel, by decide +kernel, by decide +kernel⟩
theorem mk_L_75 : sg_V RL 75 RX12 yX12_puts cX12_puts 3 (some .int) 2 := ⟨ym_X12_puts, qw_985, qw_986, qw_987, qw_5, qw_988, by decide⟩
theorem ym_X12_beginsAt : sg_Y yX12_beginsAt 2 := ⟨by decide +kernel, by decide +kernel, by decide +kernel⟩
theorem mk_X12_391 : sg_V RX12 391 RX12 yX12_beginsAt cX12_beginsAt 3 (some .boolean) 2 := ⟨ym_X12_beginsAt, qw_989, qw_990, qw_991, qw_5, qw_992, by decide⟩
theorem ym_X12_putNow : sg_Y yX12_putNow 2 := ⟨by decide +kernel, by decide +kernel, by decide +kernel⟩
theorem mk_X12_394 : sg_V RX12 394 RX12 yX12_putNow cX12_putNow 3 none 2 := ⟨ym_X12_putNow, qw_993, qw_994, qw_995, qw_5, qw_996, by decide⟩
theorem ym_X11_carries : sg_Y yX11_carries 2 := ⟨by decide +kernel, by decide +kernel, by decide +kernel⟩
theorem mk_L_76 : sg_V RL 76 RX11 yX11_carries cX11_carries 4 (some .int) 2 := ⟨ym_X11_carries, qw_997, qw_998, qw_999, qw_2, qw_1000, by decide⟩
theorem mk_X11_273 : sg_V RX11 273 RX8 yX8_takeWay cX8_takeWay 2 none 1 := ⟨ym_X8_takeWay, qw_1001, qw_648, qw_649, qw_37, qw_650, by decide⟩
theorem ym_X12_carries : sg_Y yX12_carries 2 := ⟨by decide +kernel, by decide +kernel, by decide +kernel⟩
theorem mk_L_79 : sg_V RL 79 RX12 yX12_carries cX12_carries 4 (some .int) 2 := ⟨ym_X12_carries, qw_1002, qw_1003, qw_1004, qw_5, qw_1005, by decide⟩
theorem ym_X11_bars : sg_Y yX11_bars 1 := ⟨by decide +kernel, by decide +kernel, by decide +kernel⟩
theorem mk_L_80 : sg_V RL 80 RX11 yX11_bars cX11_bars 2 (some .int) 1 := ⟨ym_X11_bars, qw_1006, qw_1007, qw_1008, qw_2, qw_1009, by decide⟩
theorem ym_X12_bars : sg_Y yX12_bars 1 := ⟨by decide +kernel, by decide +kernel, by decide +kernel⟩
theorem mk_L_83 : sg_V RL 83 RX12 yX12_bars cX12_bars 2 (some .int) 1 := ⟨ym_X12_bars, qw_1010, qw_1011, qw_1012, qw_5, qw_1013, by decide⟩
theorem ym_X11_give : sg_Y yX11_give 1 := ⟨by decide +kernel, by decide +kernel, by decide +kernel⟩
theorem mk_L_84 : sg_V RL 84 RX11 yX11_give cX11_give 2 (some .int) 1 := ⟨ym_X11_give, qw_1014, qw_1015, qw_1016, qw_2, qw_1017, by decide⟩
theorem ym_X12_give : sg_Y yX12_give 1 := ⟨by decide +kernel, by decide +kernel, by decide +kernel⟩
theorem mk_L_87 : sg_V RL 87 RX12 yX12_give cX12_give 2 (some .int) 1 := ⟨ym_X12_give, qw_1018, qw_1019, qw_1020, qw_5, qw_1021, by decide⟩
theorem ym_X11_flood : sg_Y yX11_flood 1 := ⟨by decide +kernel, by decide +kernel, by decide +kernel⟩
theorem mk_L_88 : sg_V RL 88 RX11 yX11_flood cX11_flood 2 (some .boolean) 1 := ⟨ym_X11_flood, qw_1022, qw_1023, qw_1024, qw_2, qw_1025, by decide⟩
theorem ym_X12_flood : sg_Y yX12_flood 1 := ⟨by decide +kernel, by decide +kernel, by decide +kernel⟩
theorem mk_L_91 : sg_V RL 91 RX12 yX12_flood cX12_flood 2 (some .boolean) 1 := ⟨ym_X12_flood, qw_1026, qw_1027, qw_1028, qw_5, qw_1029, by decide⟩
theorem ym_X11_years : sg_Y yX11_years 2 := ⟨by decide +kernel, by decide +kernel, by decide +kernel⟩
theorem mk_L_94 : sg_V RL 94 RX11 yX11_years cX11_years 5 (some .int) 2 := ⟨ym_X11_years, qw_1030, qw_1031, qw_1032, qw_2, qw_1033, by decide⟩
theorem ym_X11_drawFlood : sg_Y yX11_drawFlood 0 := ⟨by decide +kernel, by decide +kernel, by decide +kernel⟩
theorem mk_X11_280 : sg_V RX11 280 RX11 yX11_drawFlood cX11_drawFlood 1 none 0 := ⟨ym_X11_drawFlood, qw_1035, qw_1036, qw_1037, qw_2, qw_1038, by decide⟩
theorem ym_X11_draw : sg_Y yX11_draw 1 := ⟨by decide +kernel, by decide +kernel, by decide +kernel⟩
theorem mk_X11_286 : sg_V RX11 286 RX11 yX11_draw cX11_draw 2 (some .int) 1 := ⟨ym_X11_draw, qw_1039, qw_1040, qw_1041, qw_2, qw_1042, by decide⟩
theorem ym_X11_drawPut : sg_Y yX11_drawPut 0 := ⟨by decide +kernel, by decide +kernel, by decide +kernel⟩
theorem mk_X11_283 : sg_V RX11 283 RX11 yX11_drawPut cX11_drawPut 3 none 0 := ⟨ym_X11_drawPut, qw_1045, qw_1046, qw_1047, qw_2, qw_1048, by decide⟩
theorem ym_X12_years : sg_Y yX12_years 2 := ⟨by decide +kernel, by decide +kernel, by decide +kernel⟩
theorem mk_L_98 : sg_V RL 98 RX12 yX12_years cX12_years 5 (some .int) 2 := ⟨ym_X12_years, qw_1049, qw_1050, qw_1051, qw_5, qw_1052, by decide⟩
theorem ym_X12_drawDay : sg_Y yX12_drawDay 0 := ⟨by decide +kernel, by decide +kernel, by decide +kernel⟩
theorem mk_X12_408 : sg_V RX12 408 RX12 yX12_drawDay cX12_drawDay 3 none 0 := ⟨ym_X12_drawDay, qw_1054, qw_1055, qw_1056, qw_5, qw_1057, by decide⟩
theorem ym_X12_draw : sg_Y yX12_draw 1 := ⟨by decide +kernel, by decide +kernel, by decide +kernel⟩
theorem mk_X12_405 : sg_V RX12 405 RX12 yX12_draw cX12_draw 2 (some .int) 1 := ⟨ym_X12_draw, qw_1058, qw_1059, qw_1060, qw_5, qw_1061, by decide⟩
theorem ym_X11_status : sg_Y yX11_status 1 := ⟨by decide +kernel, by decide +kernel, by decide +kernel⟩
theorem mk_L_99 : sg_V RL 99 RX11 yX11_status cX11_status 2 (some .int) 1 := ⟨ym_X11_status, qw_1064, qw_1065, qw_1066, qw_2, qw_1067, by decide⟩
theorem ym_X12_status : sg_Y yX12_status 1 := ⟨by decide +kernel, by decide +kernel, by decide +kernel⟩
theorem mk_L_102 : sg_V RL 102 RX12 yX12_status cX12_status 2 (some .int) 1 := ⟨ym_X12_status, qw_1068, qw_1069, qw_1070, qw_5, qw_1071, by decide⟩
theorem ym_X11_undo : sg_Y yX11_undo 0 := ⟨by decide +kernel, by decide +kernel, by decide +kernel⟩
theorem mk_L_103 : sg_V RL 103 RX11 yX11_undo cX11_undo 1 (some .int) 0 := ⟨ym_X11_undo, qw_1072, qw_1073, qw_1074, qw_2, qw_1075, by decide⟩
theorem ym_X6_undoOne : sg_Y yX6_undoOne 1 := ⟨by decide +kernel, by decide +kernel, by decide +kernel⟩
theorem mk_X11_299 : sg_V RX11 299 RX6 yX6_undoOne cX6_undoOne 2 (some .int) 1 := ⟨ym_X6_undoOne, qw_1076, qw_1077, qw_1078, qw_46, qw_1079, by decide⟩
theorem ym_X12_undo : sg_Y yX12_undo 0 := ⟨by decide +kernel, by decide +kernel, by decide +kernel⟩
theorem mk_L_106 : sg_V RL 106 RX12 yX12_undo cX12_undo 2 (some .int) 0 := ⟨ym_X12_undo, qw_1080, qw_1081, qw_1082, qw_5, qw_1083, by decide⟩
theorem ym_X11_log : sg_Y yX11_log 2 := ⟨by decide +kernel, by decide +kernel, by decide +kernel⟩
theorem mk_L_107 : sg_V RL 107 RX11 yX11_log cX11_log 3 (some .int) 2 := ⟨ym_X11_log, qw_1084, qw_1085, qw_1086, qw_2, qw_1087, by decide⟩
theorem ym_X6_logSize : sg_Y yX6_logSize 1 := ⟨by decide +kernel, by decide +kernel, by decide +kernel⟩
theorem mk_X11_302 : sg_Sw RX11 302 yX6_logSize cX6_logSize 1 (some .int) 1 := ⟨ym_X6_logSize, qw_1088, qw_1089, qw_46, qw_1090, by decide⟩
theorem ym_X6_noted : sg_Y yX6_noted 2 := ⟨by decide +kernel, by decide +kernel, by decide +kernel⟩
theorem mk_X11_305 : sg_V RX11 305 RX6 yX6_noted cX6_noted 3 (some .int) 2 := ⟨ym_X6_noted, qw_1091, qw_1092, qw_1093, qw_46, qw_1094, by decide⟩
theorem ym_X12_log : sg_Y yX12_log 2 := ⟨by decide +kernel, by decide +kernel, by decide +kernel⟩
theorem mk_L_110 : sg_V RL 110 RX12 yX12_log cX12_log 3 (some .int) 2 := ⟨ym_X12_log, qw_1095, qw_1096, qw_1097, qw_5, qw_1098, by decide⟩
theorem ym_X11_far : sg_Y yX11_far 2 := ⟨by decide +kernel, by decide +kernel, by decide +kernel⟩
theorem mk_L_111 : sg_V RL 111 RX11 yX11_far cX11_far 3 (some .int) 2 := ⟨ym_X11_far, qw_1099, qw_1100, qw_1101, qw_2, qw_1102, by decide⟩
theorem mk_X11_308 : sg_V RX11 308 RX0 yX0_hasPlaces cX0_hasPlaces 3 (some .boolean) 2 := ⟨ym_X0_hasPlaces, qw_1103, qw_398, qw_399, qw_20, qw_400, by decide⟩
theorem ym_X5_measure : sg_Y yX5_measure 1 := ⟨by decide +kernel, by decide +kernel, by decide +kernel⟩
theorem mk_X11_312 : sg_V RX11 312 RX5 yX5_measure cX5_measure 5 none 1 := ⟨ym_X5_measure, qw_1104, qw_1105, qw_1106, qw_50, qw_1107, by decide⟩
theorem mk_X5_31 : sg_V RX5 31 RX1 yX1_measure cX1_measure 4 none 1 := ⟨ym_X1_measure, qw_1110, qw_698, qw_699, qw_42, qw_700, by decide⟩
theorem ym_X0_allRoads : sg_Y yX0_allRoads 0 := ⟨by decide +kernel, by decide +kernel, by decide +kernel⟩
theorem mk_X5_37 : sg_V RX5 37 RX0 yX0_allRoads cX0_allRoads 1 (some .int) 0 := ⟨ym_X0_allRoads, qw_1111, qw_1112, qw_1113, qw_20, qw_1114, by decide⟩
theorem mk_X5_55 : sg_V RX5 55 RX1 yX1_shortestBetween cX1_shortestBetween 7 (some .int) 3 := ⟨ym_X1_shortestBetween, qw_1115, qw_892, qw_893, qw_42, qw_894, by decide⟩
theorem ym_X5_shortenBy : sg_Y yX5_shortenBy 1 := ⟨by decide +kernel, by decide +kernel, by decide +kernel⟩
theorem mk_X5_63 : sg_V RX5 63 RX5 yX5_shortenBy cX5_shortenBy 5 none 1 := ⟨ym_X5_shortenBy, qw_1116, qw_1117, qw_1118, qw_50, qw_1119, by decide⟩
theorem ym_X5_reaches : sg_Y yX5_reaches 2 := ⟨by decide +kernel, by decide +kernel, by decide +kernel⟩
theorem mk_X11_313 : sg_V RX11 313 RX5 yX5_reaches cX5_reaches 3 (some .boolean) 2 := ⟨ym_X5_reaches, qw_1120, qw_1121, qw_1122, qw_50, qw_1123, by decide⟩
theorem ym_X12_far : sg_Y yX12_far 2 := ⟨by decide +kernel, by decide +kernel, by decide +kernel⟩
theorem mk_L_114 : sg_V RL 114 RX12 yX12_far cX12_far 3 (some .int) 2 := ⟨ym_X12_far, qw_1124, qw_1125, qw_1126, qw_5, qw_1127, by decide⟩
theorem ym_X12_layAway : sg_Y yX12_layAway 0 := ⟨by decide +kernel, by decide +kernel, by decide +kernel⟩
theorem mk_X12_412 : sg_V RX12 412 RX12 yX12_layAway cX12_layAway 3 none 0 := ⟨ym_X12_layAway, qw_1129, qw_1130, qw_1131, qw_5, qw_1132, by decide⟩
theorem ym_X12_awayOf : sg_Y yX12_awayOf 2 := ⟨by decide +kernel, by decide +kernel, by decide +kernel⟩
theorem mk_X12_415 : sg_V RX12 415 RX12 yX12_awayOf cX12_awayOf 3 (some .int) 2 := ⟨ym_X12_awayOf, qw_1133, qw_1134, qw_1135, qw_5, qw_1136, by decide⟩
theorem ym_X11_row : sg_Y yX11_row 2 := ⟨by decide +kernel, by decide +kernel, by decide +kernel⟩
theorem mk_L_115 : sg_V RL 115 RX11 yX11_row cX11_row 3 (some .int) 2 := ⟨ym_X11_row, qw_1137, qw_1138, qw_1139, qw_2, qw_1140, by decide⟩
theorem ym_X5_shortestRow : sg_Y yX5_shortestRow 2 := ⟨by decide +kernel, by decide +kernel, by decide +kernel⟩
theorem mk_X11_319 : sg_V RX11 319 RX5 yX5_shortestRow cX5_shortestRow 6 (some .int) 2 := ⟨ym_X5_shortestRow, qw_1141, qw_1142, qw_1143, qw_50, qw_1144, by decide⟩
theorem ym_X5_countPlacesTo : sg_Y yX5_countPlacesTo 1 := ⟨by decide +kernel, by decide +kernel, by decide +kernel⟩
theorem mk_X5_67 : sg_V RX5 67 RX5 yX5_countPlacesTo cX5_countPlacesTo 5 none 1 := ⟨ym_X5_countPlacesTo, qw_1145, qw_1146, qw_1147, qw_50, qw_1148, by decide⟩
theorem ym_X5_leadsOn : sg_Y yX5_leadsOn 3 := ⟨by decide +kernel, by decide +kernel, by decide +kernel⟩
theorem mk_X5_74 : sg_V RX5 74 RX5 yX5_leadsOn cX5_leadsOn 4 (some .boolean) 3 := ⟨ym_X5_leadsOn, qw_1150, qw_1151, qw_1152, qw_50, qw_1153, by decide⟩
theorem mk_X5_83 : sg_V RX5 83 RX5 yX5_reaches cX5_reaches 3 (some .boolean) 2 := ⟨ym_X5_reaches, qw_1154, qw_1121, qw_1122, qw_50, qw_1123, by decide⟩
theorem ym_X5_nextOnRow : sg_Y yX5_nextOnRow 2 := ⟨by decide +kernel, by decide +kernel, by decide +kernel⟩
theorem mk_X5_70 : sg_V RX5 70 RX5 yX5_nextOnRow cX5_nextOnRow 4 (some .int) 2 := ⟨ym_X5_nextOnRow, qw_1155, qw_1156, qw_1157, qw_50, qw_1158, by decide⟩
theorem ym_X12_row : sg_Y yX12_row 2 := ⟨by decide +kernel, by decide +kernel, by decide +kernel⟩
theorem mk_L_118 : sg_V RL 118 RX12 yX12_row cX12_row 3 (some .int) 2 := ⟨ym_X12_row, qw_1159, qw_1160, qw_1161, qw_5, qw_1162, by decide⟩
theorem mk_X12_428 : sg_V RX12 428 RX12 yX12_far cX12_far 3 (some .int) 2 := ⟨ym_X12_far, qw_1164, qw_1125, qw_1126, qw_5, qw_1127, by decide⟩
theorem ym_X12_tryRow : sg_Y yX12_tryRow 4 := ⟨by decide +kernel, by decide +kernel, by decide +kernel⟩
theorem mk_X12_424 : sg_V RX12 424 RX12 yX12_tryRow cX12_tryRow 6 none 4 := ⟨ym_X12_tryRow, qw_1165, qw_1166, qw_1167, qw_5, qw_1168, by decide⟩
theorem ym_X11_where : sg_Y yX11_where 2 := ⟨by decide +kernel, by decide +kernel, by decide +kernel⟩
theorem mk_L_119 : sg_V RL 119 RX11 yX11_where cX11_where 4 (some .int) 2 := ⟨ym_X11_where, qw_1170, qw_1171, qw_1172, qw_2, qw_1173, by decide⟩
theorem mk_X11_322 : sg_V RX11 322 RX8 yX8_copyFrom cX8_copyFrom 2 none 1 := ⟨ym_X8_copyFrom, qw_1174, qw_872, qw_873, qw_37, qw_874, by decide⟩
theorem ym_X12_where : sg_Y yX12_where 2 := ⟨by decide +kernel, by decide +kernel, by decide +kernel⟩
theorem mk_L_122 : sg_V RL 122 RX12 yX12_where cX12_where 4 (some .int) 2 := ⟨ym_X12_where, qw_1175, qw_1176, qw_1177, qw_5, qw_1178, by decide⟩
theorem ym_X12_putAside : sg_Y yX12_putAside 0 := ⟨by decide +kernel, by decide +kernel, by decide +kernel⟩
theorem mk_X12_431 : sg_V RX12 431 RX12 yX12_putAside cX12_putAside 2 none 0 := ⟨ym_X12_putAside, qw_1179, qw_1180, qw_1181, qw_5, qw_1182, by decide⟩
theorem ym_X12_takeBack : sg_Y yX12_takeBack 0 := ⟨by decide +kernel, by decide +kernel, by decide +kernel⟩
theorem mk_X12_434 : sg_V RX12 434 RX12 yX12_takeBack cX12_takeBack 2 none 0 := ⟨ym_X12_takeBack, qw_1183, qw_1184, qw_1185, qw_5, qw_1186, by decide⟩
theorem ym_X11_done : sg_Y yX11_done 1 := ⟨by decide +kernel, by decide +kernel, by decide +kernel⟩
theorem mk_L_123 : sg_V RL 123 RX11 yX11_done cX11_done 3 (some .int) 1 := ⟨ym_X11_done, qw_1187, qw_1188, qw_1189, qw_2, qw_1190, by decide⟩
theorem ym_X12_done : sg_Y yX12_done 1 := ⟨by decide +kernel, by decide +kernel, by decide +kernel⟩
theorem mk_L_126 : sg_V RL 126 RX12 yX12_done cX12_done 4 (some .int) 1 := ⟨ym_X12_done, qw_1191, qw_1192, qw_1193, qw_5, qw_1194, by decide⟩
theorem ym_X11_parted : sg_Y yX11_parted 2 := ⟨by decide +kernel, by decide +kernel, by decide +kernel⟩
theorem mk_L_127 : sg_V RL 127 RX11 yX11_parted cX11_parted 3 (some .int) 2 := ⟨ym_X11_parted, qw_1195, qw_1196, qw_1197, qw_2, qw_1198, by decide⟩
theorem mk_X11_324 : sg_V RX11 324 RX0 yX0_allRoads cX0_allRoads 1 (some .int) 0 := ⟨ym_X0_allRoads, qw_1199, qw_1112, qw_1113, qw_20, qw_1114, by decide⟩
theorem ym_X5_fewestToPart : sg_Y yX5_fewestToPart 3 := ⟨by decide +kernel, by decide +kernel, by decide +kernel⟩
theorem mk_X11_327 : sg_V RX11 327 RX5 yX5_fewestToPart cX5_fewestToPart 7 (some .int) 3 := ⟨ym_X5_fewestToPart, qw_1200, qw_1201, qw_1202, qw_50, qw_1203, by decide⟩
theorem mk_X5_99 : sg_Sw RX5 99 yJ6_bitCount_0f7a4 cJ6_bitCount_0f7a4 1 (some .int) 1 := ⟨ym_J6_bitCount_0f7a4, qw_1204, qw_708, qw_709, qw_710, by decide⟩
theorem ym_X5_meets : sg_Y yX5_meets 3 := ⟨by decide +kernel, by decide +kernel, by decide +kernel⟩
theorem mk_X5_105 : sg_V RX5 105 RX5 yX5_meets cX5_meets 4 (some .boolean) 3 := ⟨ym_X5_meets, qw_1205, qw_1206, qw_1207, qw_50, qw_1208, by decide⟩
theorem ym_X5_reachedFrom : sg_Y yX5_reachedFrom 2 := ⟨by decide +kernel, by decide +kernel, by decide +kernel⟩
theorem mk_X5_96 : sg_V RX5 96 RX5 yX5_reachedFrom cX5_reachedFrom 8 (some .int) 2 := ⟨ym_X5_reachedFrom, qw_1209, qw_1210, qw_1211, qw_50, qw_1212, by decide⟩
theorem ym_X12_parted : sg_Y yX12_parted 2 := ⟨by decide +kernel, by decide +kernel, by decide +kernel⟩
theorem mk_L_130 : sg_V RL 130 RX12 yX12_parted cX12_parted 3 (some .int) 2 := ⟨ym_X12_parted, qw_1213, qw_1214, qw_1215, qw_5, qw_1216, by decide⟩
theorem ym_X12_areTwo : sg_Y yX12_areTwo 2 := ⟨by decide +kernel, by decide +kernel, by decide +kernel⟩
theorem mk_X12_443 : sg_V RX12 443 RX12 yX12_areTwo cX12_areTwo 3 (some .boolean) 2 := ⟨ym_X12_areTwo, qw_1217, qw_1218, qw_1219, qw_5, qw_1220, by decide⟩
theorem ym_X12_openOnes : sg_Y yX12_openOnes 0 := ⟨by decide +kernel, by decide +kernel, by decide +kernel⟩
theorem mk_X12_437 : sg_V RX12 437 RX12 yX12_openOnes cX12_openOnes 1 (some .int) 0 := ⟨ym_X12_openOnes, qw_1221, qw_1222, qw_1223, qw_5, qw_1224, by decide⟩
theorem ym_X12_fewestOf : sg_Y yX12_fewestOf 4 := ⟨by decide +kernel, by decide +kernel, by decide +kernel⟩
theorem mk_X12_446 : sg_V RX12 446 RX12 yX12_fewestOf cX12_fewestOf 8 (some .int) 4 := ⟨ym_X12_fewestOf, qw_1225, qw_1226, qw_1227, qw_5, qw_1228, by decide⟩
theorem ym_X12_reachBy : sg_Y yX12_reachBy 2 := ⟨by decide +kernel, by decide +kernel, by decide +kernel⟩
theorem mk_X12_440 : sg_V RX12 440 RX12 yX12_reachBy cX12_reachBy 6 (some .int) 2 := ⟨ym_X12_reachBy, qw_1229, qw_1230, qw_1231, qw_5, qw_1232, by decide⟩
theorem ym_X11_joined : sg_Y yX11_joined 2 := ⟨by decide +kernel, by decide +kernel, by decide +kernel⟩
theorem mk_L_131 : sg_V RL 131 RX11 yX11_joined cX11_joined 3 (some .int) 2 := ⟨ym_X11_joined, qw_1233, qw_1234, qw_1235, qw_2, qw_1236, by decide⟩
theorem ym_X5_fewestToJoin : sg_Y yX5_fewestToJoin 3 := ⟨by decide +kernel, by decide +kernel, by decide +kernel⟩
theorem mk_X11_331 : sg_V RX11 331 RX5 yX5_fewestToJoin cX5_fewestToJoin 7 (some .int) 3 := ⟨ym_X5_fewestToJoin, qw_1237, qw_1238, qw_1239, qw_50, qw_1240, by decide⟩
theorem ym_X12_joined : sg_Y yX12_joined 2 := ⟨by decide +kernel, by decide +kernel, by decide +kernel⟩
theorem mk_L_134 : sg_V RL 134 RX12 yX12_joined cX12_joined 3 (some .int) 2 := ⟨ym_X12_joined, qw_1241, qw_1242, qw_1243, qw_5, qw_1244, by decide⟩
theorem ym_X11_seen : sg_Y yX11_seen 4 := ⟨by decide +kernel, by decide +kernel, by decide +kernel⟩
theorem mk_L_135 : sg_V RL 135 RX11 yX11_seen cX11_seen 5 (some .int) 4 := ⟨ym_X11_seen, qw_1245, qw_1246, qw_1247, qw_2, qw_1248, by decide⟩
theorem ym_X7_keep : sg_Y yX7_keep 4 := ⟨by decide +kernel, by decide +kernel, by decide +kernel⟩
theorem mk_X11_334 : sg_V RX11 334 RX7 yX7_keep cX7_keep 5 (some .int) 4 := ⟨ym_X7_keep, qw_1249, qw_1250, qw_1251, qw_54, qw_1252, by decide⟩
theorem ym_X12_seen : sg_Y yX12_seen 4 := ⟨by decide +kernel, by decide +kernel, by decide +kernel⟩
theorem mk_L_139 : sg_V RL 139 RX12 yX12_seen cX12_seen 5 (some .int) 4 := ⟨ym_X12_seen, qw_1254, qw_1255, qw_1256, qw_5, qw_1257, by decide⟩
theorem ym_X11_fits : sg_Y yX11_fits 1 := ⟨by decide +kernel, by decide +kernel, by decide +kernel⟩
theorem mk_L_140 : sg_V RL 140 RX11 yX11_fits cX11_fits 2 (some .int) 1 := ⟨ym_X11_fits, qw_1258, qw_1259, qw_1260, qw_2, qw_1261, by decide⟩
theorem ym_X7_fittingWays : sg_Y yX7_fittingWays 1 := ⟨by decide +kernel, by decide +kernel, by decide +kernel⟩
theorem mk_X11_337 : sg_V RX11 337 RX7 yX7_fittingWays cX7_fittingWays 4 (some .int) 1 := ⟨ym_X7_fittingWays, qw_1262, qw_1263, qw_1264, qw_54, qw_1265, by decide⟩
theorem mk_X7_53 : sg_V RX7 53 RX10 yX10_placeAt cX10_placeAt 3 (some .int) 2 := ⟨ym_X10_placeAt, qw_1266, qw_845, qw_846, qw_33, qw_847, by decide⟩
theorem ym_X7_follow : sg_Y yX7_follow 2 := ⟨by decide +kernel, by decide +kernel, by decide +kernel⟩
theorem mk_X7_62 : sg_V RX7 62 RX7 yX7_follow cX7_follow 4 none 2 := ⟨ym_X7_follow, qw_1267, qw_1268, qw_1269, qw_54, qw_1270, by decide⟩
theorem mk_X7_70 : sg_V RX7 70 RX8 yX8_begin cX8_begin 3 none 1 := ⟨ym_X8_begin, qw_1271, qw_641, qw_642, qw_37, qw_643, by decide⟩
theorem mk_X7_76 : sg_V RX7 76 RX8 yX8_putTo cX8_putTo 3 none 2 := ⟨ym_X8_putTo, qw_1272, qw_982, qw_983, qw_37, qw_984, by decide⟩
theorem mk_X7_79 : sg_V RX7 79 RX1 yX1_pass cX1_pass 4 (some .int) 1 := ⟨ym_X1_pass, qw_1273, qw_881, qw_882, qw_42, qw_883, by decide⟩
theorem ym_X7_agrees : sg_Y yX7_agrees 2 := ⟨by decide +kernel, by decide +kernel, by decide +kernel⟩
theorem mk_X7_66 : sg_V RX7 66 RX7 yX7_agrees cX7_agrees 4 (some .boolean) 2 := ⟨ym_X7_agrees, qw_1274, qw_1275, qw_1276, qw_54, qw_1277, by decide⟩
theorem ym_X12_fits : sg_Y yX12_fits 1 := ⟨by decide +kernel, by decide +kernel, by decide +kernel⟩
theorem mk_L_143 : sg_V RL 143 RX12 yX12_fits cX12_fits 2 (some .int) 1 := ⟨ym_X12_fits, qw_1278, qw_1279, qw_1280, qw_5, qw_1281, by decide⟩
theorem ym_X12_fitsOf : sg_Y yX12_fitsOf 1 := ⟨by decide +kernel, by decide +kernel, by decide +kernel⟩
theorem mk_X12_456 : sg_V RX12 456 RX12 yX12_fitsOf cX12_fitsOf 4 (some .int) 1 := ⟨ym_X12_fitsOf, qw_1282, qw_1283, qw_1284, qw_5, qw_1285, by decide⟩
theorem ym_X12_layTrails : sg_Y yX12_layTrails 1 := ⟨by decide +kernel, by decide +kernel, by decide +kernel⟩
theorem mk_X12_450 : sg_V RX12 450 RX12 yX12_layTrails cX12_layTrails 4 none 1 := ⟨ym_X12_layTrails, qw_1286, qw_1287, qw_1288, qw_5, qw_1289, by decide⟩
theorem ym_X12_isFit : sg_Y yX12_isFit 2 := ⟨by decide +kernel, by decide +kernel, by decide +kernel⟩
theorem mk_X12_453 : sg_V RX12 453 RX12 yX12_isFit cX12_isFit 5 (some .boolean) 2 := ⟨ym_X12_isFit, qw_1290, qw_1291, qw_1292, qw_5, qw_1293, by decide⟩
theorem ym_X11_ask : sg_Y yX11_ask 1 := ⟨by decide +kernel, by decide +kernel, by decide +kernel⟩
theorem mk_L_144 : sg_V RL 144 RX11 yX11_ask cX11_ask 3 (some .int) 1 := ⟨ym_X11_ask, qw_1294, qw_1295, qw_1296, qw_2, qw_1297, by decide⟩
theorem ym_X7_bestDayFor : sg_Y yX7_bestDayFor 1 := ⟨by decide +kernel, by decide +kernel, by decide +kernel⟩
theorem mk_X11_340 : sg_V RX11 340 RX7 yX7_bestDayFor cX7_bestDayFor 4 (some .int) 1 := ⟨ym_X7_bestDayFor, qw_1298, qw_1299, qw_1300, qw_54, qw_1301, by decide⟩
theorem ym_X7_mostAlike : sg_Y yX7_mostAlike 2 := ⟨by decide +kernel, by decide +kernel, by decide +kernel⟩
theorem mk_X7_88 : sg_V RX7 88 RX7 yX7_mostAlike cX7_mostAlike 7 (some .int) 2 := ⟨ym_X7_mostAlike, qw_1302, qw_1303, qw_1304, qw_54, qw_1305, by decide⟩
theorem ym_X12_ask : sg_Y yX12_ask 1 := ⟨by decide +kernel, by decide +kernel, by decide +kernel⟩
theorem mk_L_147 : sg_V RL 147 RX12 yX12_ask cX12_ask 7 (some .int) 1 := ⟨ym_X12_ask, qw_1307, qw_1308, qw_1309, qw_5, qw_1310, by decide⟩
theorem ym_X12_mostAlike : sg_Y yX12_mostAlike 2 := ⟨by decide +kernel, by decide +kernel, by decide +kernel⟩
theorem mk_X12_459 : sg_V RX12 459 RX12 yX12_mostAlike cX12_mostAlike 7 (some .int) 2 := ⟨ym_X12_mostAlike, qw_1311, qw_1312, qw_1313, qw_5, qw_1314, by decide⟩
theorem ym_X11_tour : sg_Y yX11_tour 3 := ⟨by decide +kernel, by decide +kernel, by decide +kernel⟩
theorem mk_L_148 : sg_V RL 148 RX11 yX11_tour cX11_tour 4 (some .int) 3 := ⟨ym_X11_tour, qw_1315, qw_1316, qw_1317, qw_2, qw_1318, by decide⟩
theorem ym_X0_hasAnyOf : sg_Y yX0_hasAnyOf 1 := ⟨by decide +kernel, by decide +kernel, by decide +kernel⟩
theorem mk_X11_343 : sg_V RX11 343 RX0 yX0_hasAnyOf cX0_hasAnyOf 2 (some .boolean) 1 := ⟨ym_X0_hasAnyOf, qw_1319, qw_1320, qw_1321, qw_20, qw_1322, by decide⟩
theorem ym_X2_findTour : sg_Y yX2_findTour 2 := ⟨by decide +kernel, by decide +kernel, by decide +kernel⟩
theorem mk_X11_346 : sg_V RX11 346 RX2 yX2_findTour cX2_findTour 4 (some .boolean) 2 := ⟨ym_X2_findTour, qw_1323, qw_1324, qw_1325, qw_58, qw_1326, by decide⟩
theorem ym_X2_goOnTour : sg_Y yX2_goOnTour 4 := ⟨by decide +kernel, by decide +kernel, by decide +kernel⟩
theorem mk_X2_36 : sg_V RX2 36 RX2 yX2_goOnTour cX2_goOnTour 6 none 4 := ⟨ym_X2_goOnTour, qw_1331, qw_1332, qw_1333, qw_58, qw_1334, by decide⟩
theorem mk_X2_49 : sg_V RX2 49 RX5 yX5_reaches cX5_reaches 3 (some .boolean) 2 := ⟨ym_X5_reaches, qw_1335, qw_1121, qw_1122, qw_50, qw_1123, by decide⟩
theorem ym_X12_tour : sg_Y yX12_tour 3 := ⟨by decide +kernel, by decide +kernel, by decide +kernel⟩
theorem mk_L_152 : sg_V RL 152 RX12 yX12_tour cX12_tour 4 (some .int) 3 := ⟨ym_X12_tour, qw_1336, qw_1337, qw_1338, qw_5, qw_1339, by decide⟩
theorem ym_X12_areSome : sg_Y yX12_areSome 1 := ⟨by decide +kernel, by decide +kernel, by decide +kernel⟩
theorem mk_X12_469 : sg_V RX12 469 RX12 yX12_areSome cX12_areSome 2 (some .boolean) 1 := ⟨ym_X12_areSome, qw_1341, qw_1342, qw_1343, qw_5, qw_1344, by decide⟩
theorem ym_X12_tryTour : sg_Y yX12_tryTour 5 := ⟨by decide +kernel, by decide +kernel, by decide +kernel⟩
theorem mk_X12_465 : sg_V RX12 465 RX12 yX12_tryTour cX12_tryTour 7 none 5 := ⟨ym_X12_tryTour, qw_1345, qw_1346, qw_1347, qw_5, qw_1348, by decide⟩
theorem ym_X11_doors : sg_Y yX11_doors 2 := ⟨by decide +kernel, by decide +kernel, by decide +kernel⟩
theorem mk_L_153 : sg_V RL 153 RX11 yX11_doors cX11_doors 3 (some .int) 2 := ⟨ym_X11_doors, qw_1349, qw_1350, qw_1351, qw_2, qw_1352, by decide⟩
theorem ym_X2_findDoors : sg_Y yX2_findDoors 1 := ⟨by decide +kernel, by decide +kernel, by decide +kernel⟩
theorem mk_X11_355 : sg_V RX11 355 RX2 yX2_findDoors cX2_findDoors 2 none 1 := ⟨ym_X2_findDoors, qw_1353, qw_1354, qw_1355, qw_58, qw_1356, by decide⟩
theorem ym_X2_goOnDoors : sg_Y yX2_goOnDoors 5 := ⟨by decide +kernel, by decide +kernel, by decide +kernel⟩
theorem mk_X2_56 : sg_V RX2 56 RX2 yX2_goOnDoors cX2_goOnDoors 8 none 5 := ⟨ym_X2_goOnDoors, qw_1358, qw_1359, qw_1360, qw_58, qw_1361, by decide⟩
theorem ym_X12_doors : sg_Y yX12_doors 2 := ⟨by decide +kernel, by decide +kernel, by decide +kernel⟩
theorem mk_L_156 : sg_V RL 156 RX12 yX12_doors cX12_doors 3 (some .int) 2 := ⟨ym_X12_doors, qw_1362, qw_1363, qw_1364, qw_5, qw_1365, by decide⟩
theorem ym_X12_tryDoors : sg_Y yX12_tryDoors 5 := ⟨by decide +kernel, by decide +kernel, by decide +kernel⟩
theorem mk_X12_472 : sg_V RX12 472 RX12 yX12_tryDoors cX12_tryDoors 8 none 5 := ⟨ym_X12_tryDoors, qw_1366, qw_1367, qw_1368, qw_5, qw_1369, by decide⟩
theorem ym_X11_game : sg_Y yX11_game 5 := ⟨by decide +kernel, by decide +kernel, by decide +kernel⟩
theorem mk_L_157 : sg_V RL 157 RX11 yX11_game cX11_game 6 (some .int) 5 := ⟨ym_X11_game, qw_1370, qw_1371, qw_1372, qw_2, qw_1373, by decide⟩
theorem ym_X0_hasTwoSets : sg_Y yX0_hasTwoSets 2 := ⟨by decide +kernel, by decide +kernel, by decide +kernel⟩
theorem mk_X11_358 : sg_V RX11 358 RX0 yX0_hasTwoSets cX0_hasTwoSets 3 (some .boolean) 2 := ⟨ym_X0_hasTwoSets, qw_1375, qw_1376, qw_1377, qw_20, qw_1378, by decide⟩
theorem mk_X0_54 : sg_V RX0 54 RX0 yX0_hasSet cX0_hasSet 2 (some .boolean) 1 := ⟨ym_X0_hasSet, qw_1379, qw_799, qw_800, qw_20, qw_801, by decide⟩
theorem ym_X2_gain : sg_Y yX2_gain 3 := ⟨by decide +kernel, by decide +kernel, by decide +kernel⟩
theorem mk_X11_362 : sg_V RX11 362 RX2 yX2_gain cX2_gain 6 (some .int) 3 := ⟨ym_X2_gain, qw_1380, qw_1381, qw_1382, qw_58, qw_1383, by decide⟩
theorem mk_X2_69 : sg_V RX2 69 RX0 yX0_hasPlace cX0_hasPlace 2 (some .boolean) 1 := ⟨ym_X0_hasPlace, qw_1384, qw_402, qw_403, qw_20, qw_404, by decide⟩
theorem ym_X12_game : sg_Y yX12_game 5 := ⟨by decide +kernel, by decide +kernel, by decide +kernel⟩
theorem mk_L_160 : sg_V RL 160 RX12 yX12_game cX12_game 6 (some .int) 5 := ⟨ym_X12_game, qw_1385, qw_1386, qw_1387, qw_5, qw_1388, by decide⟩
theorem ym_X12_areSets : sg_Y yX12_areSets 2 := ⟨by decide +kernel, by decide +kernel, by decide +kernel⟩
theorem mk_X12_475 : sg_V RX12 475 RX12 yX12_areSets cX12_areSets 3 (some .boolean) 2 := ⟨ym_X12_areSets, qw_1390, qw_1391, qw_1392, qw_5, qw_1393, by decide⟩
theorem ym_X12_gameOf : sg_Y yX12_gameOf 3 := ⟨by decide +kernel, by decide +kernel, by decide +kernel⟩
theorem mk_X12_479 : sg_V RX12 479 RX12 yX12_gameOf cX12_gameOf 5 (some .int) 3 := ⟨ym_X12_gameOf, qw_1394, qw_1395, qw_1396, qw_5, qw_1397, by decide⟩
theorem ym_X11_rests : sg_Y yX11_rests 3 := ⟨by decide +kernel, by decide +kernel, by decide +kernel⟩
theorem mk_L_161 : sg_V RL 161 RX11 yX11_rests cX11_rests 4 (some .int) 3 := ⟨ym_X11_rests, qw_1398, qw_1399, qw_1400, qw_2, qw_1401, by decide⟩
theorem ym_X2_howManyRests : sg_Y yX2_howManyRests 2 := ⟨by decide +kernel, by decide +kernel, by decide +kernel⟩
theorem mk_X11_366 : sg_V RX11 366 RX2 yX2_howManyRests cX2_howManyRests 6 (some .int) 2 := ⟨ym_X2_howManyRests, qw_1402, qw_1403, qw_1404, qw_58, qw_1405, by decide⟩
theorem ym_X2_isRest : sg_Y yX2_isRest 4 := ⟨by decide +kernel, by decide +kernel, by decide +kernel⟩
theorem mk_X2_76 : sg_V RX2 76 RX2 yX2_isRest cX2_isRest 5 (some .boolean) 4 := ⟨ym_X2_isRest, qw_1406, qw_1407, qw_1408, qw_58, qw_1409, by decide⟩
theorem ym_X2_isBestAgainst : sg_Y yX2_isBestAgainst 3 := ⟨by decide +kernel, by decide +kernel, by decide +kernel⟩
theorem mk_X2_80 : sg_V RX2 80 RX2 yX2_isBestAgainst cX2_isBestAgainst 6 (some .boolean) 3 := ⟨ym_X2_isBestAgainst, qw_1410, qw_1411, qw_1412, qw_58, qw_1413, by decide⟩
theorem mk_X2_84 : sg_V RX2 84 RX2 yX2_gain cX2_gain 6 (some .int) 3 := ⟨ym_X2_gain, qw_1414, qw_1381, qw_1382, qw_58, qw_1383, by decide⟩
theorem ym_X2_restAt : sg_Y yX2_restAt 3 := ⟨by decide +kernel, by decide +kernel, by decide +kernel⟩
theorem mk_X11_369 : sg_V RX11 369 RX2 yX2_restAt cX2_restAt 7 (some .int) 3 := ⟨ym_X2_restAt, qw_1415, qw_1416, qw_1417, qw_58, qw_1418, by decide⟩
theorem ym_X12_rests : sg_Y yX12_rests 3 := ⟨by decide +kernel, by decide +kernel, by decide +kernel⟩
theorem mk_L_164 : sg_V RL 164 RX12 yX12_rests cX12_rests 6 (some .int) 3 := ⟨ym_X12_rests, qw_1419, qw_1420, qw_1421, qw_5, qw_1422, by decide⟩
theorem ym_X12_isRest : sg_Y yX12_isRest 4 := ⟨by decide +kernel, by decide +kernel, by decide +kernel⟩
theorem mk_X12_482 : sg_V RX12 482 RX12 yX12_isRest cX12_isRest 6 (some .boolean) 4 := ⟨ym_X12_isRest, qw_1423, qw_1424, qw_1425, qw_5, qw_1426, by decide⟩
theorem ym_X11_odds : sg_Y yX11_odds 3 := ⟨by decide +kernel, by decide +kernel, by decide +kernel⟩
theorem mk_L_165 : sg_V RL 165 RX11 yX11_odds cX11_odds 4 (some .int) 3 := ⟨ym_X11_odds, qw_1427, qw_1428, qw_1429, qw_2, qw_1430, by decide⟩
theorem ym_X5_partsThatJoin : sg_Y yX5_partsThatJoin 4 := ⟨by decide +kernel, by decide +kernel, by decide +kernel⟩
theorem mk_X11_372 : sg_V RX11 372 RX5 yX5_partsThatJoin cX5_partsThatJoin 5 (some .int) 4 := ⟨ym_X5_partsThatJoin, qw_1431, qw_1432, qw_1433, qw_50, qw_1434, by decide⟩
theorem ym_X5_joiningParts : sg_Y yX5_joiningParts 7 := ⟨by decide +kernel, by decide +kernel, by decide +kernel⟩
theorem mk_X5_109 : sg_V RX5 109 RX5 yX5_joiningParts cX5_joiningParts 10 (some .int) 7 := ⟨ym_X5_joiningParts, qw_1436, qw_1437, qw_1438, qw_50, qw_1439, by decide⟩
theorem ym_X12_odds : sg_Y yX12_odds 3 := ⟨by decide +kernel, by decide +kernel, by decide +kernel⟩
theorem mk_L_168 : sg_V RL 168 RX12 yX12_odds cX12_odds 4 (some .int) 3 := ⟨ym_X12_odds, qw_1441, qw_1442, qw_1443, qw_5, qw_1444, by decide⟩
theorem ym_X12_oddsFrom : sg_Y yX12_oddsFrom 6 := ⟨by decide +kernel, by decide +kernel, by decide +kernel⟩
theorem mk_X12_486 : sg_V RX12 486 RX12 yX12_oddsFrom cX12_oddsFrom 8 (some .int) 6 := ⟨ym_X12_oddsFrom, qw_1446, qw_1447, qw_1448, qw_5, qw_1449, by decide⟩
theorem ym_X11_dead : sg_Y yX11_dead 1 := ⟨by decide +kernel, by decide +kernel, by decide +kernel⟩
theorem mk_L_169 : sg_V RL 169 RX11 yX11_dead cX11_dead 3 (some .int) 1 := ⟨ym_X11_dead, qw_1451, qw_1452, qw_1453, qw_2, qw_1454, by decide⟩
theorem mk_X11_376 : sg_V RX11 376 RX5 yX5_reachedFrom cX5_reachedFrom 8 (some .int) 2 := ⟨ym_X5_reachedFrom, qw_1455, qw_1210, qw_1211, qw_50, qw_1212, by decide⟩
theorem mk_X11_379 : sg_Sw RX11 379 yJ6_bitCount_0f7a4 cJ6_bitCount_0f7a4 1 (some .int) 1 := ⟨ym_J6_bitCount_0f7a4, qw_1456, qw_708, qw_709, qw_710, by decide⟩
theorem ym_X12_dead : sg_Y yX12_dead 1 := ⟨by decide +kernel, by decide +kernel, by decide +kernel⟩
theorem mk_L_172 : sg_V RL 172 RX12 yX12_dead cX12_dead 2 (some .int) 1 := ⟨ym_X12_dead, qw_1457, qw_1458, qw_1459, qw_5, qw_1460, by decide⟩
theorem ym_X11_shares : sg_Y yX11_shares 2 := ⟨by decide +kernel, by decide +kernel, by decide +kernel⟩
theorem mk_L_173 : sg_V RL 173 RX11 yX11_shares cX11_shares 5 (some .int) 2 := ⟨ym_X11_shares, qw_1461, qw_1462, qw_1463, qw_2, qw_1464, by decide⟩
theorem ym_X12_shares : sg_Y yX12_shares 2 := ⟨by decide +kernel, by decide +kernel, by decide +kernel⟩
theorem mk_L_176 : sg_V RL 176 RX12 yX12_shares cX12_shares 5 (some .int) 2 := ⟨ym_X12_shares, qw_1465, qw_1466, qw_1467, qw_5, qw_1468, by decide⟩
theorem ym_X11_most : sg_Y yX11_most 1 := ⟨by decide +kernel, by decide +kernel, by decide +kernel⟩
theorem mk_L_177 : sg_V RL 177 RX11 yX11_most cX11_most 2 (some .int) 1 := ⟨ym_X11_most, qw_1469, qw_1470, qw_1471, qw_2, qw_1472, by decide⟩
theorem ym_X11_firstGreatest : sg_Y yX11_firstGreatest 2 := ⟨by decide +kernel, by decide +kernel, by decide +kernel⟩
theorem mk_X11_384 : sg_Sw RX11 384 yX11_firstGreatest cX11_firstGreatest 4 (some .int) 2 := ⟨ym_X11_firstGreatest, qw_1473, qw_1474, qw_2, qw_1475, by decide⟩
theorem ym_X5_middle : sg_Y yX5_middle 0 := ⟨by decide +kernel, by decide +kernel, by decide +kernel⟩
theorem mk_X11_387 : sg_V RX11 387 RX5 yX5_middle cX5_middle 3 (some .int) 0 := ⟨ym_X5_middle, qw_1476, qw_1477, qw_1478, qw_50, qw_1479, by decide⟩
theorem ym_X5_farthestFrom : sg_Y yX5_farthestFrom 1 := ⟨by decide +kernel, by decide +kernel, by decide +kernel⟩
theorem mk_X5_115 : sg_V RX5 115 RX5 yX5_farthestFrom cX5_farthestFrom 4 (some .int) 1 := ⟨ym_X5_farthestFrom, qw_1480, qw_1481, qw_1482, qw_50, qw_1483, by decide⟩
theorem ym_X5_bridges : sg_Y yX5_bridges 0 := ⟨by decide +kernel, by decide +kernel, by decide +kernel⟩
theorem mk_X11_390 : sg_V RX11 390 RX5 yX5_bridges cX5_bridges 4 (some .int) 0 := ⟨ym_X5_bridges, qw_1485, qw_1486, qw_1487, qw_50, qw_1488, by decide⟩
theorem ym_X5_openHours : sg_Y yX5_openHours 0 := ⟨by decide +kernel, by decide +kernel, by decide +kernel⟩
theorem mk_X11_393 : sg_V RX11 393 RX5 yX5_openHours cX5_openHours 3 (some .int) 0 := ⟨ym_X5_openHours, qw_1489, qw_1490, qw_1491, qw_50, qw_1492, by decide⟩
theorem ym_X5_parts : sg_Y yX5_parts 0 := ⟨by decide +kernel, by decide +kernel, by decide +kernel⟩
theorem mk_X11_396 : sg_V RX11 396 RX5 yX5_parts cX5_parts 4 (some .int) 0 := ⟨ym_X5_parts, qw_1493, qw_1494, qw_1495, qw_50, qw_1496, by decide⟩
theorem ym_X12_most : sg_Y yX12_most 1 := ⟨by decide +kernel, by decide +kernel, by decide +kernel⟩
theorem mk_L_180 : sg_V RL 180 RX12 yX12_most cX12_most 2 (some .int) 1 := ⟨ym_X12_most, qw_1497, qw_1498, qw_1499, qw_5, qw_1500, by decide⟩
theorem ym_X12_topRoad : sg_Y yX12_topRoad 1 := ⟨by decide +kernel, by decide +kernel, by decide +kernel⟩
theorem mk_X12_495 : sg_V RX12 495 RX12 yX12_topRoad cX12_topRoad 5 (some .int) 1 := ⟨ym_X12_topRoad, qw_1501, qw_1502, qw_1503, qw_5, qw_1504, by decide⟩
theorem ym_X12_bridges : sg_Y yX12_bridges 0 := ⟨by decide +kernel, by decide +kernel, by decide +kernel⟩
theorem mk_X12_499 : sg_V RX12 499 RX12 yX12_bridges cX12_bridges 3 (some .int) 0 := ⟨ym_X12_bridges, qw_1505, qw_1506, qw_1507, qw_5, qw_1508, by decide⟩
theorem ym_X12_openLength : sg_Y yX12_openLength 0 := ⟨by decide +kernel, by decide +kernel, by decide +kernel⟩
theorem mk_X12_502 : sg_V RX12 502 RX12 yX12_openLength cX12_openLength 3 (some .int) 0 := ⟨ym_X12_openLength, qw_1509, qw_1510, qw_1511, qw_5, qw_1512, by decide⟩
theorem ym_X12_parts : sg_Y yX12_parts 0 := ⟨by decide +kernel, by decide +kernel, by decide +kernel⟩
theorem mk_X12_505 : sg_V RX12 505 RX12 yX12_parts cX12_parts 4 (some .int) 0 := ⟨ym_X12_parts, qw_1513, qw_1514, qw_1515, qw_5, qw_1516, by decide⟩
theorem ym_X12_topPlace : sg_Y yX12_topPlace 1 := ⟨by decide +kernel, by decide +kernel, by decide +kernel⟩
theorem mk_X12_508 : sg_V RX12 508 RX12 yX12_topPlace cX12_topPlace 5 (some .int) 1 := ⟨ym_X12_topPlace, qw_1517, qw_1518, qw_1519, qw_5, qw_1520, by decide⟩
theorem ym_X12_farthestFrom : sg_Y yX12_farthestFrom 1 := ⟨by decide +kernel, by decide +kernel, by decide +kernel⟩
theorem mk_X12_492 : sg_V RX12 492 RX12 yX12_farthestFrom cX12_farthestFrom 4 (some .int) 1 := ⟨ym_X12_farthestFrom, qw_1521, qw_1522, qw_1523, qw_5, qw_1524, by decide⟩
theorem ym_X11_image : sg_Y yX11_image 0 := ⟨by decide +kernel, by decide +kernel, by decide +kernel⟩
theorem mk_L_181 : sg_V RL 181 RX11 yX11_image cX11_image 1 (some .int) 0 := ⟨ym_X11_image, qw_1525, qw_1526, qw_1527, qw_2, qw_1528, by decide⟩
theorem ym_X6_keepImage : sg_Y yX6_keepImage 1 := ⟨by decide +kernel, by decide +kernel, by decide +kernel⟩
theorem mk_X11_399 : sg_V RX11 399 RX6 yX6_keepImage cX6_keepImage 2 none 1 := ⟨ym_X6_keepImage, qw_1529, qw_1530, qw_1531, qw_46, qw_1532, by decide⟩
theorem ym_X12_image : sg_Y yX12_image 0 := ⟨by decide +kernel, by decide +kernel, by decide +kernel⟩
theorem mk_L_184 : sg_V RL 184 RX12 yX12_image cX12_image 2 (some .int) 0 := ⟨ym_X12_image, qw_1534, qw_1535, qw_1536, qw_5, qw_1537, by decide⟩
theorem ym_X11_back : sg_Y yX11_back 0 := ⟨by decide +kernel, by decide +kernel, by decide +kernel⟩
theorem mk_L_185 : sg_V RL 185 RX11 yX11_back cX11_back 1 (some .int) 0 := ⟨ym_X11_back, qw_1538, qw_1539, qw_1540, qw_2, qw_1541, by decide⟩
theorem ym_X6_goBack : sg_Y yX6_goBack 1 := ⟨by decide +kernel, by decide +kernel, by decide +kernel⟩
theorem mk_X11_402 : sg_V RX11 402 RX6 yX6_goBack cX6_goBack 2 (some .boolean) 1 := ⟨ym_X6_goBack, qw_1542, qw_1543, qw_1544, qw_46, qw_1545, by decide⟩
theorem ym_X12_back : sg_Y yX12_back 0 := ⟨by decide +kernel, by decide +kernel, by decide +kernel⟩
theorem mk_L_188 : sg_V RL 188 RX12 yX12_back cX12_back 2 (some .int) 0 := ⟨ym_X12_back, qw_1546, qw_1547, qw_1548, qw_5, qw_1549, by decide⟩
theorem ym_X11_count : sg_Y yX11_count 1 := ⟨by decide +kernel, by decide +kernel, by decide +kernel⟩
theorem mk_L_189 : sg_V RL 189 RX11 yX11_count cX11_count 2 (some .int) 1 := ⟨ym_X11_count, qw_1550, qw_1551, qw_1552, qw_2, qw_1553, by decide⟩
theorem ym_X12_count : sg_Y yX12_count 1 := ⟨by decide +kernel, by decide +kernel, by decide +kernel⟩
theorem mk_L_192 : sg_V RL 192 RX12 yX12_count cX12_count 2 (some .int) 1 := ⟨ym_X12_count, qw_1554, qw_1555, qw_1556, qw_5, qw_1557, by decide⟩
