/-! That the tables are the machine's: printed by wip/gen/tables.py. -/
theorem m_in {w : Cond} (i : Nat) (h : tables_1[i]? = some w) (hg : m_gw w = true) : w ∈ m_tall := List.mem_filter.mpr ⟨List.mem_append_right _ (List.mem_of_getElem? h), hg⟩
theorem m_inp {w : Cond} (i : Nat) (h : (k2_sels lw_privs)[i]? = some w) (hg : m_gw w = true) : w ∈ m_tall := List.mem_filter.mpr ⟨List.mem_append_left _ (List.mem_of_getElem? h), hg⟩
theorem mw_0 : (Jvm.Cond.initialized "RelayPassagesLaw") ∈ m_tall := m_in 0 (by decide +kernel) rfl
theorem mw_1 : (Jvm.Cond.initialized "RelayPassages") ∈ m_tall := m_in 1 (by decide +kernel) rfl
theorem mw_2 : (Jvm.Cond.initialized "RelayPassages$Network") ∈ m_tall := m_in 2 (by decide +kernel) rfl
theorem mw_3 : (Jvm.Cond.initialized "RelayPassages$WayFinder") ∈ m_tall := m_in 3 (by decide +kernel) rfl
theorem mw_4 : (Jvm.Cond.initialized "RelayPassagesModel") ∈ m_tall := m_in 4 (by decide +kernel) rfl
theorem mw_8 : (Jvm.Cond.initialized "java/lang/IllegalArgumentException") ∈ m_tall := m_in 8 (by decide +kernel) rfl
theorem mw_9 : (Jvm.Cond.initialized "java/lang/IllegalStateException") ∈ m_tall := m_in 9 (by decide +kernel) rfl
theorem mw_10 : (Jvm.Cond.initialized "RelayPassages$Parcel") ∈ m_tall := m_in 10 (by decide +kernel) rfl
theorem mw_11 : (Jvm.Cond.initialized "java/util/NoSuchElementException") ∈ m_tall := m_in 11 (by decide +kernel) rfl
theorem mw_12 : (Jvm.Cond.initialized "java/lang/Math") ∈ m_tall := m_in 12 (by decide +kernel) rfl
theorem mw_13 : (Jvm.Cond.classLink "RelayPassagesLaw" (8 : Nat) "RelayPassages") ∈ m_tall := m_in 13 (by decide +kernel) rfl
theorem mw_14 : (Jvm.Cond.instantiable "RelayPassages" (5 : Nat)) ∈ m_tall := m_in 14 (by decide +kernel) rfl
theorem mw_15 : (Jvm.Cond.methodLink "RelayPassagesLaw" (41 : Nat) ({ cls := "RelayPassages", name := "<init>", desc := "()V" } : Jvm.MethodName)) ∈ m_tall := m_in 15 (by decide +kernel) rfl
theorem mw_16 : (Jvm.Cond.instanceMethod ({ cls := "RelayPassages", name := "<init>", desc := "()V" } : Jvm.MethodName)) ∈ m_tall := m_in 16 (by decide +kernel) rfl
theorem mw_17 : (Jvm.Cond.code ({ cls := "RelayPassages", name := "<init>", desc := "()V" } : Jvm.MethodName) prog_1_method_1_code (1 : Nat) (Option.none : Option Jvm.ClassFile.FieldType)) ∈ m_tall := m_in 17 (by decide +kernel) rfl
theorem mw_18 : (Jvm.Cond.methodLink "RelayPassages" (1 : Nat) ({ cls := "java/lang/Object", name := "<init>", desc := "()V" } : Jvm.MethodName)) ∈ m_tall := m_in 18 (by decide +kernel) rfl
theorem mw_19 : (Jvm.Cond.instanceMethod ({ cls := "java/lang/Object", name := "<init>", desc := "()V" } : Jvm.MethodName)) ∈ m_tall := m_in 19 (by decide +kernel) rfl
theorem mw_20 : (Jvm.Cond.code ({ cls := "java/lang/Object", name := "<init>", desc := "()V" } : Jvm.MethodName) object_method_1_code (1 : Nat) (Option.none : Option Jvm.ClassFile.FieldType)) ∈ m_tall := m_in 20 (by decide +kernel) rfl
theorem mw_21 : (Jvm.Cond.classLink "RelayPassages" (7 : Nat) "RelayPassages$Network") ∈ m_tall := m_in 21 (by decide +kernel) rfl
theorem mw_22 : (Jvm.Cond.instantiable "RelayPassages$Network" (7 : Nat)) ∈ m_tall := m_in 22 (by decide +kernel) rfl
theorem mw_23 : (Jvm.Cond.methodLinkNest "RelayPassages" (9 : Nat) ({ cls := "RelayPassages$Network", name := "<init>", desc := "()V" } : Jvm.MethodName) "RelayPassages") ∈ m_tall := m_in 23 (by decide +kernel) rfl
theorem mw_24 : (Jvm.Cond.instanceMethod ({ cls := "RelayPassages$Network", name := "<init>", desc := "()V" } : Jvm.MethodName)) ∈ m_tall := m_in 24 (by decide +kernel) rfl
theorem mw_25 : (Jvm.Cond.code ({ cls := "RelayPassages$Network", name := "<init>", desc := "()V" } : Jvm.MethodName) prog_2_method_1_code (1 : Nat) (Option.none : Option Jvm.ClassFile.FieldType)) ∈ m_tall := m_in 25 (by decide +kernel) rfl
theorem mw_26 : (Jvm.Cond.methodLink "RelayPassages$Network" (3 : Nat) ({ cls := "java/lang/Object", name := "<init>", desc := "()V" } : Jvm.MethodName)) ∈ m_tall := m_in 26 (by decide +kernel) rfl
theorem mw_27 : (Jvm.Cond.fieldLink "RelayPassages" (63 : Nat) "RelayPassages$Network" "nodes" "I") ∈ m_tall := m_in 27 (by decide +kernel) rfl
theorem mw_28 : (Jvm.Cond.fieldLink "RelayPassages$Network" (36 : Nat) "RelayPassages$Network" "nodes" "I") ∈ m_tall := m_in 28 (by decide +kernel) rfl
theorem mw_29 : (Jvm.Cond.fieldLink "RelayPassages" (54 : Nat) "RelayPassages$Network" "contacts" "I") ∈ m_tall := m_in 29 (by decide +kernel) rfl
theorem mw_30 : (Jvm.Cond.fieldLink "RelayPassages$Network" (43 : Nat) "RelayPassages$Network" "contacts" "I") ∈ m_tall := m_in 30 (by decide +kernel) rfl
theorem mw_31 : (Jvm.Cond.fieldLink "RelayPassages$Network" (24 : Nat) "RelayPassages$Network" "made" "I") ∈ m_tall := m_in 31 (by decide +kernel) rfl
theorem mw_32 : (Jvm.Cond.fieldLink "RelayPassages$Network" (9 : Nat) "RelayPassages$Network" "places" "[I") ∈ m_tall := m_in 32 (by decide +kernel) rfl
theorem mw_33 : (Jvm.Cond.fieldLink "RelayPassages$Network" (15 : Nat) "RelayPassages$Network" "openTo" "[I") ∈ m_tall := m_in 33 (by decide +kernel) rfl
theorem mw_34 : (Jvm.Cond.fieldLink "RelayPassages$Network" (18 : Nat) "RelayPassages$Network" "usedTo" "[I") ∈ m_tall := m_in 34 (by decide +kernel) rfl
theorem mw_35 : (Jvm.Cond.fieldLink "RelayPassages$Network" (21 : Nat) "RelayPassages$Network" "storedAt" "[I") ∈ m_tall := m_in 35 (by decide +kernel) rfl
theorem mw_36 : (Jvm.Cond.lays "RelayPassages$Network" "RelayPassages$Network" "nodes" "I") ∈ m_tall := m_in 36 (by decide +kernel) rfl
theorem mw_38 : (Jvm.Cond.lays "RelayPassages$Network" "RelayPassages$Network" "contacts" "I") ∈ m_tall := m_in 38 (by decide +kernel) rfl
theorem mw_40 : (Jvm.Cond.lays "RelayPassages$Network" "RelayPassages$Network" "made" "I") ∈ m_tall := m_in 40 (by decide +kernel) rfl
theorem mw_42 : (Jvm.Cond.laysFinal "RelayPassages$Network" "RelayPassages$Network" "places" "[I") ∈ m_tall := m_in 42 (by decide +kernel) rfl
theorem mw_44 : (Jvm.Cond.laysFinal "RelayPassages$Network" "RelayPassages$Network" "openTo" "[I") ∈ m_tall := m_in 44 (by decide +kernel) rfl
theorem mw_46 : (Jvm.Cond.laysFinal "RelayPassages$Network" "RelayPassages$Network" "usedTo" "[I") ∈ m_tall := m_in 46 (by decide +kernel) rfl
theorem mw_48 : (Jvm.Cond.laysFinal "RelayPassages$Network" "RelayPassages$Network" "storedAt" "[I") ∈ m_tall := m_in 48 (by decide +kernel) rfl
theorem mw_51 : (Jvm.Cond.arrayClass Jvm.ClassFile.FieldType.int) ∈ m_tall := m_in 51 (by decide +kernel) rfl
theorem mw_52 : (Jvm.Cond.classLink "RelayPassages" (16 : Nat) "RelayPassages$WayFinder") ∈ m_tall := m_in 52 (by decide +kernel) rfl
theorem mw_53 : (Jvm.Cond.instantiable "RelayPassages$WayFinder" (2 : Nat)) ∈ m_tall := m_in 53 (by decide +kernel) rfl
theorem mw_54 : (Jvm.Cond.methodLinkNest "RelayPassages" (18 : Nat) ({ cls := "RelayPassages$WayFinder", name := "<init>", desc := "()V" } : Jvm.MethodName) "RelayPassages") ∈ m_tall := m_in 54 (by decide +kernel) rfl
theorem mw_55 : (Jvm.Cond.instanceMethod ({ cls := "RelayPassages$WayFinder", name := "<init>", desc := "()V" } : Jvm.MethodName)) ∈ m_tall := m_in 55 (by decide +kernel) rfl
theorem mw_56 : (Jvm.Cond.code ({ cls := "RelayPassages$WayFinder", name := "<init>", desc := "()V" } : Jvm.MethodName) prog_4_method_1_code (1 : Nat) (Option.none : Option Jvm.ClassFile.FieldType)) ∈ m_tall := m_in 56 (by decide +kernel) rfl
theorem mw_57 : (Jvm.Cond.methodLink "RelayPassages$WayFinder" (3 : Nat) ({ cls := "java/lang/Object", name := "<init>", desc := "()V" } : Jvm.MethodName)) ∈ m_tall := m_in 57 (by decide +kernel) rfl
theorem mw_58 : (Jvm.Cond.fieldLink "RelayPassages$WayFinder" (9 : Nat) "RelayPassages$WayFinder" "way" "[I") ∈ m_tall := m_in 58 (by decide +kernel) rfl
theorem mw_59 : (Jvm.Cond.fieldLink "RelayPassages" (168 : Nat) "RelayPassages$WayFinder" "way" "[I") ∈ m_tall := m_in 59 (by decide +kernel) rfl
theorem mw_60 : (Jvm.Cond.fieldLink "RelayPassages$WayFinder" (15 : Nat) "RelayPassages$WayFinder" "leading" "[I") ∈ m_tall := m_in 60 (by decide +kernel) rfl
theorem mw_61 : (Jvm.Cond.laysFinal "RelayPassages$WayFinder" "RelayPassages$WayFinder" "way" "[I") ∈ m_tall := m_in 61 (by decide +kernel) rfl
theorem mw_63 : (Jvm.Cond.laysFinal "RelayPassages$WayFinder" "RelayPassages$WayFinder" "leading" "[I") ∈ m_tall := m_in 63 (by decide +kernel) rfl
theorem mw_66 : (Jvm.Cond.classLink "RelayPassages" (23 : Nat) "RelayPassages$Parcel") ∈ m_tall := m_in 66 (by decide +kernel) rfl
theorem mw_67 : (Jvm.Cond.arrayOver (Jvm.ClassFile.FieldType.object "RelayPassages$Parcel")) ∈ m_tall := m_in 67 (by decide +kernel) rfl
theorem mw_68 : (Jvm.Cond.fieldLink "RelayPassages" (10 : Nat) "RelayPassages" "network" "LRelayPassages$Network;") ∈ m_tall := m_in 68 (by decide +kernel) rfl
theorem mw_69 : (Jvm.Cond.fieldLink "RelayPassages" (19 : Nat) "RelayPassages" "finder" "LRelayPassages$WayFinder;") ∈ m_tall := m_in 69 (by decide +kernel) rfl
theorem mw_70 : (Jvm.Cond.fieldLink "RelayPassages" (25 : Nat) "RelayPassages" "parcels" "[LRelayPassages$Parcel;") ∈ m_tall := m_in 70 (by decide +kernel) rfl
theorem mw_71 : (Jvm.Cond.fieldLink "RelayPassages" (29 : Nat) "RelayPassages" "given" "I") ∈ m_tall := m_in 71 (by decide +kernel) rfl
theorem mw_72 : (Jvm.Cond.fieldLink "RelayPassages" (33 : Nat) "RelayPassages" "now" "I") ∈ m_tall := m_in 72 (by decide +kernel) rfl
theorem mw_73 : (Jvm.Cond.laysFinal "RelayPassages" "RelayPassages" "network" "LRelayPassages$Network;") ∈ m_tall := m_in 73 (by decide +kernel) rfl
theorem mw_75 : (Jvm.Cond.laysFinal "RelayPassages" "RelayPassages" "finder" "LRelayPassages$WayFinder;") ∈ m_tall := m_in 75 (by decide +kernel) rfl
theorem mw_77 : (Jvm.Cond.laysFinal "RelayPassages" "RelayPassages" "parcels" "[LRelayPassages$Parcel;") ∈ m_tall := m_in 77 (by decide +kernel) rfl
theorem mw_79 : (Jvm.Cond.lays "RelayPassages" "RelayPassages" "given" "I") ∈ m_tall := m_in 79 (by decide +kernel) rfl
theorem mw_81 : (Jvm.Cond.lays "RelayPassages" "RelayPassages" "now" "I") ∈ m_tall := m_in 81 (by decide +kernel) rfl
theorem mw_84 : (Jvm.Cond.methodLink "RelayPassagesLaw" (58 : Nat) ({ cls := "RelayPassages", name := "now", desc := "()I" } : Jvm.MethodName)) ∈ m_tall := m_in 84 (by decide +kernel) rfl
theorem mw_85 : (Jvm.Cond.instanceMethod ({ cls := "RelayPassages", name := "now", desc := "()I" } : Jvm.MethodName)) ∈ m_tall := m_in 85 (by decide +kernel) rfl
theorem mw_86 : (Jvm.Cond.selects "RelayPassages" ({ cls := "RelayPassages", name := "now", desc := "()I" } : Jvm.MethodName) ({ cls := "RelayPassages", name := "now", desc := "()I" } : Jvm.MethodName)) ∈ m_tall := m_in 86 (by decide +kernel) rfl
theorem mw_87 : (Jvm.Cond.code ({ cls := "RelayPassages", name := "now", desc := "()I" } : Jvm.MethodName) prog_1_method_4_code (1 : Nat) (Option.some Jvm.ClassFile.FieldType.int)) ∈ m_tall := m_in 87 (by decide +kernel) rfl
theorem mw_88 : (Jvm.Cond.methodLink "RelayPassagesLaw" (80 : Nat) ({ cls := "RelayPassages", name := "state", desc := "(I)I" } : Jvm.MethodName)) ∈ m_tall := m_in 88 (by decide +kernel) rfl
theorem mw_89 : (Jvm.Cond.instanceMethod ({ cls := "RelayPassages", name := "state", desc := "(I)I" } : Jvm.MethodName)) ∈ m_tall := m_in 89 (by decide +kernel) rfl
theorem mw_90 : (Jvm.Cond.selects "RelayPassages" ({ cls := "RelayPassages", name := "state", desc := "(I)I" } : Jvm.MethodName) ({ cls := "RelayPassages", name := "state", desc := "(I)I" } : Jvm.MethodName)) ∈ m_tall := m_in 90 (by decide +kernel) rfl
theorem mw_91 : (Jvm.Cond.code ({ cls := "RelayPassages", name := "state", desc := "(I)I" } : Jvm.MethodName) prog_1_method_10_code (3 : Nat) (Option.some Jvm.ClassFile.FieldType.int)) ∈ m_tall := m_in 91 (by decide +kernel) rfl
theorem mw_92 : (Jvm.Cond.methodLink "RelayPassages" (97 : Nat) ({ cls := "RelayPassages", name := "parcelOf", desc := "(I)LRelayPassages$Parcel;" } : Jvm.MethodName)) ∈ m_tall := m_in 92 (by decide +kernel) rfl
theorem mw_94 : (Jvm.Cond.instanceMethod ({ cls := "RelayPassages", name := "parcelOf", desc := "(I)LRelayPassages$Parcel;" } : Jvm.MethodName)) ∈ m_tall := m_in 94 (by decide +kernel) rfl
theorem mw_95 : (Jvm.Cond.code ({ cls := "RelayPassages", name := "parcelOf", desc := "(I)LRelayPassages$Parcel;" } : Jvm.MethodName) prog_1_method_20_code (2 : Nat) (Option.some (Jvm.ClassFile.FieldType.object "RelayPassages$Parcel"))) ∈ m_tall := m_in 95 (by decide +kernel) rfl
theorem mw_96 : (Jvm.Cond.methodLink "RelayPassages" (131 : Nat) ({ cls := "RelayPassages$Parcel", name := "stateAt", desc := "(I)I" } : Jvm.MethodName)) ∈ m_tall := m_in 96 (by decide +kernel) rfl
theorem mw_97 : (Jvm.Cond.instanceMethod ({ cls := "RelayPassages$Parcel", name := "stateAt", desc := "(I)I" } : Jvm.MethodName)) ∈ m_tall := m_in 97 (by decide +kernel) rfl
theorem mw_98 : (Jvm.Cond.selects "RelayPassages$Parcel" ({ cls := "RelayPassages$Parcel", name := "stateAt", desc := "(I)I" } : Jvm.MethodName) ({ cls := "RelayPassages$Parcel", name := "stateAt", desc := "(I)I" } : Jvm.MethodName)) ∈ m_tall := m_in 98 (by decide +kernel) rfl
theorem mw_99 : (Jvm.Cond.code ({ cls := "RelayPassages$Parcel", name := "stateAt", desc := "(I)I" } : Jvm.MethodName) prog_3_method_2_code (2 : Nat) (Option.some Jvm.ClassFile.FieldType.int)) ∈ m_tall := m_in 99 (by decide +kernel) rfl
theorem mw_100 : (Jvm.Cond.methodLink "RelayPassagesLaw" (84 : Nat) ({ cls := "RelayPassages", name := "where", desc := "(I)I" } : Jvm.MethodName)) ∈ m_tall := m_in 100 (by decide +kernel) rfl
theorem mw_101 : (Jvm.Cond.instanceMethod ({ cls := "RelayPassages", name := "where", desc := "(I)I" } : Jvm.MethodName)) ∈ m_tall := m_in 101 (by decide +kernel) rfl
theorem mw_102 : (Jvm.Cond.selects "RelayPassages" ({ cls := "RelayPassages", name := "where", desc := "(I)I" } : Jvm.MethodName) ({ cls := "RelayPassages", name := "where", desc := "(I)I" } : Jvm.MethodName)) ∈ m_tall := m_in 102 (by decide +kernel) rfl
theorem mw_103 : (Jvm.Cond.code ({ cls := "RelayPassages", name := "where", desc := "(I)I" } : Jvm.MethodName) prog_1_method_11_code (3 : Nat) (Option.some Jvm.ClassFile.FieldType.int)) ∈ m_tall := m_in 103 (by decide +kernel) rfl
theorem mw_104 : (Jvm.Cond.methodLink "RelayPassages" (138 : Nat) ({ cls := "RelayPassages$Parcel", name := "nodeFor", desc := "(I)I" } : Jvm.MethodName)) ∈ m_tall := m_in 104 (by decide +kernel) rfl
theorem mw_105 : (Jvm.Cond.instanceMethod ({ cls := "RelayPassages$Parcel", name := "nodeFor", desc := "(I)I" } : Jvm.MethodName)) ∈ m_tall := m_in 105 (by decide +kernel) rfl
theorem mw_106 : (Jvm.Cond.selects "RelayPassages$Parcel" ({ cls := "RelayPassages$Parcel", name := "nodeFor", desc := "(I)I" } : Jvm.MethodName) ({ cls := "RelayPassages$Parcel", name := "nodeFor", desc := "(I)I" } : Jvm.MethodName)) ∈ m_tall := m_in 106 (by decide +kernel) rfl
theorem mw_107 : (Jvm.Cond.code ({ cls := "RelayPassages$Parcel", name := "nodeFor", desc := "(I)I" } : Jvm.MethodName) prog_3_method_4_code (2 : Nat) (Option.some Jvm.ClassFile.FieldType.int)) ∈ m_tall := m_in 107 (by decide +kernel) rfl
theorem mw_108 : (Jvm.Cond.methodLink "RelayPassagesLaw" (88 : Nat) ({ cls := "RelayPassages", name := "arrival", desc := "(I)I" } : Jvm.MethodName)) ∈ m_tall := m_in 108 (by decide +kernel) rfl
theorem mw_109 : (Jvm.Cond.instanceMethod ({ cls := "RelayPassages", name := "arrival", desc := "(I)I" } : Jvm.MethodName)) ∈ m_tall := m_in 109 (by decide +kernel) rfl
theorem mw_110 : (Jvm.Cond.selects "RelayPassages" ({ cls := "RelayPassages", name := "arrival", desc := "(I)I" } : Jvm.MethodName) ({ cls := "RelayPassages", name := "arrival", desc := "(I)I" } : Jvm.MethodName)) ∈ m_tall := m_in 110 (by decide +kernel) rfl
theorem mw_111 : (Jvm.Cond.code ({ cls := "RelayPassages", name := "arrival", desc := "(I)I" } : Jvm.MethodName) prog_1_method_12_code (3 : Nat) (Option.some Jvm.ClassFile.FieldType.int)) ∈ m_tall := m_in 111 (by decide +kernel) rfl
theorem mw_112 : (Jvm.Cond.methodLink "RelayPassagesLaw" (92 : Nat) ({ cls := "RelayPassages", name := "step", desc := "(II)I" } : Jvm.MethodName)) ∈ m_tall := m_in 112 (by decide +kernel) rfl
theorem mw_113 : (Jvm.Cond.instanceMethod ({ cls := "RelayPassages", name := "step", desc := "(II)I" } : Jvm.MethodName)) ∈ m_tall := m_in 113 (by decide +kernel) rfl
theorem mw_114 : (Jvm.Cond.selects "RelayPassages" ({ cls := "RelayPassages", name := "step", desc := "(II)I" } : Jvm.MethodName) ({ cls := "RelayPassages", name := "step", desc := "(II)I" } : Jvm.MethodName)) ∈ m_tall := m_in 114 (by decide +kernel) rfl
theorem mw_115 : (Jvm.Cond.code ({ cls := "RelayPassages", name := "step", desc := "(II)I" } : Jvm.MethodName) prog_1_method_13_code (4 : Nat) (Option.some Jvm.ClassFile.FieldType.int)) ∈ m_tall := m_in 115 (by decide +kernel) rfl
theorem mw_116 : (Jvm.Cond.methodLink "RelayPassagesLaw" (96 : Nat) ({ cls := "RelayPassages", name := "linkUsed", desc := "(III)I" } : Jvm.MethodName)) ∈ m_tall := m_in 116 (by decide +kernel) rfl
theorem mw_117 : (Jvm.Cond.instanceMethod ({ cls := "RelayPassages", name := "linkUsed", desc := "(III)I" } : Jvm.MethodName)) ∈ m_tall := m_in 117 (by decide +kernel) rfl
theorem mw_118 : (Jvm.Cond.selects "RelayPassages" ({ cls := "RelayPassages", name := "linkUsed", desc := "(III)I" } : Jvm.MethodName) ({ cls := "RelayPassages", name := "linkUsed", desc := "(III)I" } : Jvm.MethodName)) ∈ m_tall := m_in 118 (by decide +kernel) rfl
theorem mw_119 : (Jvm.Cond.code ({ cls := "RelayPassages", name := "linkUsed", desc := "(III)I" } : Jvm.MethodName) prog_1_method_14_code (4 : Nat) (Option.some Jvm.ClassFile.FieldType.int)) ∈ m_tall := m_in 119 (by decide +kernel) rfl
theorem mw_120 : (Jvm.Cond.methodLink "RelayPassages" (141 : Nat) ({ cls := "RelayPassages$Network", name := "isPair", desc := "(II)Z" } : Jvm.MethodName)) ∈ m_tall := m_in 120 (by decide +kernel) rfl
theorem mw_121 : (Jvm.Cond.instanceMethod ({ cls := "RelayPassages$Network", name := "isPair", desc := "(II)Z" } : Jvm.MethodName)) ∈ m_tall := m_in 121 (by decide +kernel) rfl
theorem mw_122 : (Jvm.Cond.selects "RelayPassages$Network" ({ cls := "RelayPassages$Network", name := "isPair", desc := "(II)Z" } : Jvm.MethodName) ({ cls := "RelayPassages$Network", name := "isPair", desc := "(II)Z" } : Jvm.MethodName)) ∈ m_tall := m_in 122 (by decide +kernel) rfl
theorem mw_123 : (Jvm.Cond.code ({ cls := "RelayPassages$Network", name := "isPair", desc := "(II)Z" } : Jvm.MethodName) prog_2_method_4_code (3 : Nat) (Option.some Jvm.ClassFile.FieldType.boolean)) ∈ m_tall := m_in 123 (by decide +kernel) rfl
theorem mw_124 : (Jvm.Cond.methodLink "RelayPassages$Network" (32 : Nat) ({ cls := "RelayPassages$Network", name := "isNode", desc := "(I)Z" } : Jvm.MethodName)) ∈ m_tall := m_in 124 (by decide +kernel) rfl
theorem mw_125 : (Jvm.Cond.instanceMethod ({ cls := "RelayPassages$Network", name := "isNode", desc := "(I)Z" } : Jvm.MethodName)) ∈ m_tall := m_in 125 (by decide +kernel) rfl
theorem mw_126 : (Jvm.Cond.selects "RelayPassages$Network" ({ cls := "RelayPassages$Network", name := "isNode", desc := "(I)Z" } : Jvm.MethodName) ({ cls := "RelayPassages$Network", name := "isNode", desc := "(I)Z" } : Jvm.MethodName)) ∈ m_tall := m_in 126 (by decide +kernel) rfl
theorem mw_127 : (Jvm.Cond.code ({ cls := "RelayPassages$Network", name := "isNode", desc := "(I)Z" } : Jvm.MethodName) prog_2_method_3_code (2 : Nat) (Option.some Jvm.ClassFile.FieldType.boolean)) ∈ m_tall := m_in 127 (by decide +kernel) rfl
theorem mw_128 : (Jvm.Cond.methodLinkNest "RelayPassages$Network" (28 : Nat) ({ cls := "RelayPassages", name := "isInSet", desc := "(II)Z" } : Jvm.MethodName) "RelayPassages") ∈ m_tall := m_in 128 (by decide +kernel) rfl
theorem mw_129 : (Jvm.Cond.static ({ cls := "RelayPassages", name := "isInSet", desc := "(II)Z" } : Jvm.MethodName)) ∈ m_tall := m_in 129 (by decide +kernel) rfl
theorem mw_130 : (Jvm.Cond.code ({ cls := "RelayPassages", name := "isInSet", desc := "(II)Z" } : Jvm.MethodName) prog_1_method_19_code (2 : Nat) (Option.some Jvm.ClassFile.FieldType.boolean)) ∈ m_tall := m_in 130 (by decide +kernel) rfl
theorem mw_131 : (Jvm.Cond.methodLink "RelayPassages" (145 : Nat) ({ cls := "RelayPassages", name := "isTick", desc := "(I)Z" } : Jvm.MethodName)) ∈ m_tall := m_in 131 (by decide +kernel) rfl
theorem mw_132 : (Jvm.Cond.static ({ cls := "RelayPassages", name := "isTick", desc := "(I)Z" } : Jvm.MethodName)) ∈ m_tall := m_in 132 (by decide +kernel) rfl
theorem mw_133 : (Jvm.Cond.code ({ cls := "RelayPassages", name := "isTick", desc := "(I)Z" } : Jvm.MethodName) prog_1_method_18_code (1 : Nat) (Option.some Jvm.ClassFile.FieldType.boolean)) ∈ m_tall := m_in 133 (by decide +kernel) rfl
theorem mw_134 : (Jvm.Cond.methodLink "RelayPassages" (148 : Nat) ({ cls := "RelayPassages$Network", name := "usersOfLink", desc := "(III)I" } : Jvm.MethodName)) ∈ m_tall := m_in 134 (by decide +kernel) rfl
theorem mw_135 : (Jvm.Cond.instanceMethod ({ cls := "RelayPassages$Network", name := "usersOfLink", desc := "(III)I" } : Jvm.MethodName)) ∈ m_tall := m_in 135 (by decide +kernel) rfl
theorem mw_136 : (Jvm.Cond.selects "RelayPassages$Network" ({ cls := "RelayPassages$Network", name := "usersOfLink", desc := "(III)I" } : Jvm.MethodName) ({ cls := "RelayPassages$Network", name := "usersOfLink", desc := "(III)I" } : Jvm.MethodName)) ∈ m_tall := m_in 136 (by decide +kernel) rfl
theorem mw_137 : (Jvm.Cond.code ({ cls := "RelayPassages$Network", name := "usersOfLink", desc := "(III)I" } : Jvm.MethodName) prog_2_method_9_code (4 : Nat) (Option.some Jvm.ClassFile.FieldType.int)) ∈ m_tall := m_in 137 (by decide +kernel) rfl
theorem mw_138 : (Jvm.Cond.methodLink "RelayPassages$Network" (39 : Nat) ({ cls := "RelayPassages$Network", name := "cell", desc := "(II)I" } : Jvm.MethodName)) ∈ m_tall := m_in 138 (by decide +kernel) rfl
theorem mw_139 : (Jvm.Cond.static ({ cls := "RelayPassages$Network", name := "cell", desc := "(II)I" } : Jvm.MethodName)) ∈ m_tall := m_in 139 (by decide +kernel) rfl
theorem mw_140 : (Jvm.Cond.code ({ cls := "RelayPassages$Network", name := "cell", desc := "(II)I" } : Jvm.MethodName) prog_2_method_2_code (2 : Nat) (Option.some Jvm.ClassFile.FieldType.int)) ∈ m_tall := m_in 140 (by decide +kernel) rfl
theorem mw_141 : (Jvm.Cond.methodLink "RelayPassagesLaw" (100 : Nat) ({ cls := "RelayPassages", name := "stored", desc := "(II)I" } : Jvm.MethodName)) ∈ m_tall := m_in 141 (by decide +kernel) rfl
theorem mw_142 : (Jvm.Cond.instanceMethod ({ cls := "RelayPassages", name := "stored", desc := "(II)I" } : Jvm.MethodName)) ∈ m_tall := m_in 142 (by decide +kernel) rfl
theorem mw_143 : (Jvm.Cond.selects "RelayPassages" ({ cls := "RelayPassages", name := "stored", desc := "(II)I" } : Jvm.MethodName) ({ cls := "RelayPassages", name := "stored", desc := "(II)I" } : Jvm.MethodName)) ∈ m_tall := m_in 143 (by decide +kernel) rfl
theorem mw_144 : (Jvm.Cond.code ({ cls := "RelayPassages", name := "stored", desc := "(II)I" } : Jvm.MethodName) prog_1_method_15_code (3 : Nat) (Option.some Jvm.ClassFile.FieldType.int)) ∈ m_tall := m_in 144 (by decide +kernel) rfl
theorem mw_145 : (Jvm.Cond.methodLink "RelayPassages" (45 : Nat) ({ cls := "RelayPassages$Network", name := "isNode", desc := "(I)Z" } : Jvm.MethodName)) ∈ m_tall := m_in 145 (by decide +kernel) rfl
theorem mw_146 : (Jvm.Cond.methodLink "RelayPassages" (152 : Nat) ({ cls := "RelayPassages$Network", name := "usersOfPlaces", desc := "(II)I" } : Jvm.MethodName)) ∈ m_tall := m_in 146 (by decide +kernel) rfl
theorem mw_147 : (Jvm.Cond.instanceMethod ({ cls := "RelayPassages$Network", name := "usersOfPlaces", desc := "(II)I" } : Jvm.MethodName)) ∈ m_tall := m_in 147 (by decide +kernel) rfl
theorem mw_148 : (Jvm.Cond.selects "RelayPassages$Network" ({ cls := "RelayPassages$Network", name := "usersOfPlaces", desc := "(II)I" } : Jvm.MethodName) ({ cls := "RelayPassages$Network", name := "usersOfPlaces", desc := "(II)I" } : Jvm.MethodName)) ∈ m_tall := m_in 148 (by decide +kernel) rfl
theorem mw_149 : (Jvm.Cond.code ({ cls := "RelayPassages$Network", name := "usersOfPlaces", desc := "(II)I" } : Jvm.MethodName) prog_2_method_10_code (3 : Nat) (Option.some Jvm.ClassFile.FieldType.int)) ∈ m_tall := m_in 149 (by decide +kernel) rfl
theorem mw_150 : (Jvm.Cond.methodLink "RelayPassagesLaw" (104 : Nat) ({ cls := "RelayPassages", name := "open", desc := "(III)Z" } : Jvm.MethodName)) ∈ m_tall := m_in 150 (by decide +kernel) rfl
theorem mw_151 : (Jvm.Cond.instanceMethod ({ cls := "RelayPassages", name := "open", desc := "(III)Z" } : Jvm.MethodName)) ∈ m_tall := m_in 151 (by decide +kernel) rfl
theorem mw_152 : (Jvm.Cond.selects "RelayPassages" ({ cls := "RelayPassages", name := "open", desc := "(III)Z" } : Jvm.MethodName) ({ cls := "RelayPassages", name := "open", desc := "(III)Z" } : Jvm.MethodName)) ∈ m_tall := m_in 152 (by decide +kernel) rfl
theorem mw_153 : (Jvm.Cond.code ({ cls := "RelayPassages", name := "open", desc := "(III)Z" } : Jvm.MethodName) prog_1_method_16_code (4 : Nat) (Option.some Jvm.ClassFile.FieldType.boolean)) ∈ m_tall := m_in 153 (by decide +kernel) rfl
theorem mw_154 : (Jvm.Cond.methodLink "RelayPassages" (73 : Nat) ({ cls := "RelayPassages$Network", name := "isOpenWithin", desc := "(IIII)Z" } : Jvm.MethodName)) ∈ m_tall := m_in 154 (by decide +kernel) rfl
theorem mw_155 : (Jvm.Cond.instanceMethod ({ cls := "RelayPassages$Network", name := "isOpenWithin", desc := "(IIII)Z" } : Jvm.MethodName)) ∈ m_tall := m_in 155 (by decide +kernel) rfl
theorem mw_156 : (Jvm.Cond.selects "RelayPassages$Network" ({ cls := "RelayPassages$Network", name := "isOpenWithin", desc := "(IIII)Z" } : Jvm.MethodName) ({ cls := "RelayPassages$Network", name := "isOpenWithin", desc := "(IIII)Z" } : Jvm.MethodName)) ∈ m_tall := m_in 156 (by decide +kernel) rfl
theorem mw_157 : (Jvm.Cond.code ({ cls := "RelayPassages$Network", name := "isOpenWithin", desc := "(IIII)Z" } : Jvm.MethodName) prog_2_method_6_code (6 : Nat) (Option.some Jvm.ClassFile.FieldType.boolean)) ∈ m_tall := m_in 157 (by decide +kernel) rfl
theorem mw_158 : (Jvm.Cond.methodLink "RelayPassagesLaw" (109 : Nat) ({ cls := "RelayPassages", name := "free", desc := "(II)I" } : Jvm.MethodName)) ∈ m_tall := m_in 158 (by decide +kernel) rfl
theorem mw_159 : (Jvm.Cond.instanceMethod ({ cls := "RelayPassages", name := "free", desc := "(II)I" } : Jvm.MethodName)) ∈ m_tall := m_in 159 (by decide +kernel) rfl
theorem mw_160 : (Jvm.Cond.selects "RelayPassages" ({ cls := "RelayPassages", name := "free", desc := "(II)I" } : Jvm.MethodName) ({ cls := "RelayPassages", name := "free", desc := "(II)I" } : Jvm.MethodName)) ∈ m_tall := m_in 160 (by decide +kernel) rfl
theorem mw_161 : (Jvm.Cond.code ({ cls := "RelayPassages", name := "free", desc := "(II)I" } : Jvm.MethodName) prog_1_method_17_code (3 : Nat) (Option.some Jvm.ClassFile.FieldType.int)) ∈ m_tall := m_in 161 (by decide +kernel) rfl
theorem mw_162 : (Jvm.Cond.methodLink "RelayPassages" (156 : Nat) ({ cls := "RelayPassages$Network", name := "placesLeft", desc := "(II)I" } : Jvm.MethodName)) ∈ m_tall := m_in 162 (by decide +kernel) rfl
theorem mw_163 : (Jvm.Cond.instanceMethod ({ cls := "RelayPassages$Network", name := "placesLeft", desc := "(II)I" } : Jvm.MethodName)) ∈ m_tall := m_in 163 (by decide +kernel) rfl
theorem mw_164 : (Jvm.Cond.selects "RelayPassages$Network" ({ cls := "RelayPassages$Network", name := "placesLeft", desc := "(II)I" } : Jvm.MethodName) ({ cls := "RelayPassages$Network", name := "placesLeft", desc := "(II)I" } : Jvm.MethodName)) ∈ m_tall := m_in 164 (by decide +kernel) rfl
theorem mw_165 : (Jvm.Cond.code ({ cls := "RelayPassages$Network", name := "placesLeft", desc := "(II)I" } : Jvm.MethodName) prog_2_method_11_code (3 : Nat) (Option.some Jvm.ClassFile.FieldType.int)) ∈ m_tall := m_in 165 (by decide +kernel) rfl
theorem mw_166 : (Jvm.Cond.methodLink "RelayPassagesLaw" (45 : Nat) ({ cls := "RelayPassagesLaw", name := "node", desc := "(LRelayPassages;II[J)I" } : Jvm.MethodName)) ∈ m_tall := m_in 166 (by decide +kernel) rfl
theorem mw_167 : (Jvm.Cond.static ({ cls := "RelayPassagesLaw", name := "node", desc := "(LRelayPassages;II[J)I" } : Jvm.MethodName)) ∈ m_tall := m_in 167 (by decide +kernel) rfl
theorem mw_168 : (Jvm.Cond.codeWith ({ cls := "RelayPassagesLaw", name := "node", desc := "(LRelayPassages;II[J)I" } : Jvm.MethodName) method_3_code (5 : Nat) (Option.some Jvm.ClassFile.FieldType.int) [((0 : Nat), (10 : Nat), (13 : Nat), (13 : Nat)), ((0 : Nat), (10 : Nat), (17 : Nat), (15 : Nat))]) ∈ m_tall := m_in 168 (by decide +kernel) rfl
theorem mw_169 : (Jvm.Cond.classLink "RelayPassagesLaw" (13 : Nat) "java/lang/IllegalArgumentException") ∈ m_tall := m_in 169 (by decide +kernel) rfl
theorem mw_170 : (Jvm.Cond.classLink "RelayPassagesLaw" (15 : Nat) "java/lang/IllegalStateException") ∈ m_tall := m_in 170 (by decide +kernel) rfl
theorem mw_171 : (Jvm.Cond.methodLink "RelayPassagesLaw" (7 : Nat) ({ cls := "RelayPassages", name := "node", desc := "(II)I" } : Jvm.MethodName)) ∈ m_tall := m_in 171 (by decide +kernel) rfl
theorem mw_172 : (Jvm.Cond.instanceMethod ({ cls := "RelayPassages", name := "node", desc := "(II)I" } : Jvm.MethodName)) ∈ m_tall := m_in 172 (by decide +kernel) rfl
theorem mw_173 : (Jvm.Cond.selects "RelayPassages" ({ cls := "RelayPassages", name := "node", desc := "(II)I" } : Jvm.MethodName) ({ cls := "RelayPassages", name := "node", desc := "(II)I" } : Jvm.MethodName)) ∈ m_tall := m_in 173 (by decide +kernel) rfl
theorem mw_174 : (Jvm.Cond.code ({ cls := "RelayPassages", name := "node", desc := "(II)I" } : Jvm.MethodName) prog_1_method_2_code (3 : Nat) (Option.some Jvm.ClassFile.FieldType.int)) ∈ m_tall := m_in 174 (by decide +kernel) rfl
theorem mw_175 : (Jvm.Cond.classLink "RelayPassages" (36 : Nat) "java/lang/IllegalArgumentException") ∈ m_tall := m_in 175 (by decide +kernel) rfl
theorem mw_177 : (Jvm.Cond.castable "java/lang/IllegalArgumentException" "java/lang/IllegalArgumentException") ∈ m_tall := m_in 177 (by decide +kernel) rfl
theorem mw_216 : (Jvm.Cond.stringRef "RelayPassages" (38 : Nat) "a node is 0 .. 7") ∈ m_tall := m_in 216 (by decide +kernel) rfl
theorem mw_243 : (Jvm.Cond.stringRef "RelayPassages" (43 : Nat) "a node has 0 .. 4 places") ∈ m_tall := m_in 243 (by decide +kernel) rfl
theorem mw_244 : (Jvm.Cond.classLink "RelayPassages" (49 : Nat) "java/lang/IllegalStateException") ∈ m_tall := m_in 244 (by decide +kernel) rfl
theorem mw_246 : (Jvm.Cond.castable "java/lang/IllegalStateException" "java/lang/IllegalStateException") ∈ m_tall := m_in 246 (by decide +kernel) rfl
theorem mw_253 : (Jvm.Cond.stringRef "RelayPassages" (51 : Nat) "there is such a node") ∈ m_tall := m_in 253 (by decide +kernel) rfl
theorem mw_260 : (Jvm.Cond.stringRef "RelayPassages" (57 : Nat) "a contact was made") ∈ m_tall := m_in 260 (by decide +kernel) rfl
theorem mw_261 : (Jvm.Cond.methodLink "RelayPassages" (59 : Nat) ({ cls := "RelayPassages$Network", name := "makeNode", desc := "(II)V" } : Jvm.MethodName)) ∈ m_tall := m_in 261 (by decide +kernel) rfl
theorem mw_262 : (Jvm.Cond.instanceMethod ({ cls := "RelayPassages$Network", name := "makeNode", desc := "(II)V" } : Jvm.MethodName)) ∈ m_tall := m_in 262 (by decide +kernel) rfl
theorem mw_263 : (Jvm.Cond.selects "RelayPassages$Network" ({ cls := "RelayPassages$Network", name := "makeNode", desc := "(II)V" } : Jvm.MethodName) ({ cls := "RelayPassages$Network", name := "makeNode", desc := "(II)V" } : Jvm.MethodName)) ∈ m_tall := m_in 263 (by decide +kernel) rfl
theorem mw_264 : (Jvm.Cond.code ({ cls := "RelayPassages$Network", name := "makeNode", desc := "(II)V" } : Jvm.MethodName) prog_2_method_5_code (3 : Nat) (Option.none : Option Jvm.ClassFile.FieldType)) ∈ m_tall := m_in 264 (by decide +kernel) rfl
theorem mw_265 : (Jvm.Cond.methodLink "RelayPassagesLaw" (54 : Nat) ({ cls := "RelayPassagesLaw", name := "contact", desc := "(LRelayPassages;IIII[J)I" } : Jvm.MethodName)) ∈ m_tall := m_in 265 (by decide +kernel) rfl
theorem mw_266 : (Jvm.Cond.static ({ cls := "RelayPassagesLaw", name := "contact", desc := "(LRelayPassages;IIII[J)I" } : Jvm.MethodName)) ∈ m_tall := m_in 266 (by decide +kernel) rfl
theorem mw_267 : (Jvm.Cond.codeWith ({ cls := "RelayPassagesLaw", name := "contact", desc := "(LRelayPassages;IIII[J)I" } : Jvm.MethodName) method_4_code (7 : Nat) (Option.some Jvm.ClassFile.FieldType.int) [((0 : Nat), (14 : Nat), (17 : Nat), (13 : Nat)), ((0 : Nat), (14 : Nat), (21 : Nat), (15 : Nat))]) ∈ m_tall := m_in 267 (by decide +kernel) rfl
theorem mw_268 : (Jvm.Cond.methodLink "RelayPassagesLaw" (17 : Nat) ({ cls := "RelayPassages", name := "contact", desc := "(IIII)I" } : Jvm.MethodName)) ∈ m_tall := m_in 268 (by decide +kernel) rfl
theorem mw_269 : (Jvm.Cond.instanceMethod ({ cls := "RelayPassages", name := "contact", desc := "(IIII)I" } : Jvm.MethodName)) ∈ m_tall := m_in 269 (by decide +kernel) rfl
theorem mw_270 : (Jvm.Cond.selects "RelayPassages" ({ cls := "RelayPassages", name := "contact", desc := "(IIII)I" } : Jvm.MethodName) ({ cls := "RelayPassages", name := "contact", desc := "(IIII)I" } : Jvm.MethodName)) ∈ m_tall := m_in 270 (by decide +kernel) rfl
theorem mw_271 : (Jvm.Cond.code ({ cls := "RelayPassages", name := "contact", desc := "(IIII)I" } : Jvm.MethodName) prog_1_method_3_code (5 : Nat) (Option.some Jvm.ClassFile.FieldType.int)) ∈ m_tall := m_in 271 (by decide +kernel) rfl
theorem mw_272 : (Jvm.Cond.methodLink "RelayPassages" (66 : Nat) ({ cls := "RelayPassages", name := "checkPair", desc := "(II)V" } : Jvm.MethodName)) ∈ m_tall := m_in 272 (by decide +kernel) rfl
theorem mw_274 : (Jvm.Cond.instanceMethod ({ cls := "RelayPassages", name := "checkPair", desc := "(II)V" } : Jvm.MethodName)) ∈ m_tall := m_in 274 (by decide +kernel) rfl
theorem mw_275 : (Jvm.Cond.code ({ cls := "RelayPassages", name := "checkPair", desc := "(II)V" } : Jvm.MethodName) prog_1_method_21_code (3 : Nat) (Option.none : Option Jvm.ClassFile.FieldType)) ∈ m_tall := m_in 275 (by decide +kernel) rfl
theorem mw_276 : (Jvm.Cond.stringRef "RelayPassages" (159 : Nat) "these are no two different nodes") ∈ m_tall := m_in 276 (by decide +kernel) rfl
theorem mw_277 : (Jvm.Cond.stringRef "RelayPassages" (69 : Nat) "no ticks for a contact") ∈ m_tall := m_in 277 (by decide +kernel) rfl
theorem mw_278 : (Jvm.Cond.stringRef "RelayPassages" (71 : Nat) "24 contacts were made") ∈ m_tall := m_in 278 (by decide +kernel) rfl
theorem mw_279 : (Jvm.Cond.stringRef "RelayPassages" (77 : Nat) "the pair is open in one of these ticks") ∈ m_tall := m_in 279 (by decide +kernel) rfl
theorem mw_280 : (Jvm.Cond.methodLink "RelayPassages" (79 : Nat) ({ cls := "RelayPassages$Network", name := "makeContact", desc := "(IIII)V" } : Jvm.MethodName)) ∈ m_tall := m_in 280 (by decide +kernel) rfl
theorem mw_281 : (Jvm.Cond.instanceMethod ({ cls := "RelayPassages$Network", name := "makeContact", desc := "(IIII)V" } : Jvm.MethodName)) ∈ m_tall := m_in 281 (by decide +kernel) rfl
theorem mw_282 : (Jvm.Cond.selects "RelayPassages$Network" ({ cls := "RelayPassages$Network", name := "makeContact", desc := "(IIII)V" } : Jvm.MethodName) ({ cls := "RelayPassages$Network", name := "makeContact", desc := "(IIII)V" } : Jvm.MethodName)) ∈ m_tall := m_in 282 (by decide +kernel) rfl
theorem mw_283 : (Jvm.Cond.code ({ cls := "RelayPassages$Network", name := "makeContact", desc := "(IIII)V" } : Jvm.MethodName) prog_2_method_7_code (6 : Nat) (Option.none : Option Jvm.ClassFile.FieldType)) ∈ m_tall := m_in 283 (by decide +kernel) rfl
theorem mw_284 : (Jvm.Cond.methodLink "RelayPassagesLaw" (62 : Nat) ({ cls := "RelayPassagesLaw", name := "book", desc := "(LRelayPassages;III[J)I" } : Jvm.MethodName)) ∈ m_tall := m_in 284 (by decide +kernel) rfl
theorem mw_285 : (Jvm.Cond.static ({ cls := "RelayPassagesLaw", name := "book", desc := "(LRelayPassages;III[J)I" } : Jvm.MethodName)) ∈ m_tall := m_in 285 (by decide +kernel) rfl
theorem mw_286 : (Jvm.Cond.codeWith ({ cls := "RelayPassagesLaw", name := "book", desc := "(LRelayPassages;III[J)I" } : Jvm.MethodName) method_5_code (6 : Nat) (Option.some Jvm.ClassFile.FieldType.int) [((0 : Nat), (12 : Nat), (15 : Nat), (13 : Nat)), ((0 : Nat), (12 : Nat), (19 : Nat), (15 : Nat))]) ∈ m_tall := m_in 286 (by decide +kernel) rfl
theorem mw_287 : (Jvm.Cond.methodLink "RelayPassagesLaw" (21 : Nat) ({ cls := "RelayPassages", name := "book", desc := "(III)I" } : Jvm.MethodName)) ∈ m_tall := m_in 287 (by decide +kernel) rfl
theorem mw_288 : (Jvm.Cond.instanceMethod ({ cls := "RelayPassages", name := "book", desc := "(III)I" } : Jvm.MethodName)) ∈ m_tall := m_in 288 (by decide +kernel) rfl
theorem mw_289 : (Jvm.Cond.selects "RelayPassages" ({ cls := "RelayPassages", name := "book", desc := "(III)I" } : Jvm.MethodName) ({ cls := "RelayPassages", name := "book", desc := "(III)I" } : Jvm.MethodName)) ∈ m_tall := m_in 289 (by decide +kernel) rfl
theorem mw_290 : (Jvm.Cond.code ({ cls := "RelayPassages", name := "book", desc := "(III)I" } : Jvm.MethodName) prog_1_method_5_code (6 : Nat) (Option.some Jvm.ClassFile.FieldType.int)) ∈ m_tall := m_in 290 (by decide +kernel) rfl
theorem mw_291 : (Jvm.Cond.methodLink "RelayPassages" (83 : Nat) ({ cls := "RelayPassages", name := "checkBooking", desc := "(III)V" } : Jvm.MethodName)) ∈ m_tall := m_in 291 (by decide +kernel) rfl
theorem mw_293 : (Jvm.Cond.instanceMethod ({ cls := "RelayPassages", name := "checkBooking", desc := "(III)V" } : Jvm.MethodName)) ∈ m_tall := m_in 293 (by decide +kernel) rfl
theorem mw_294 : (Jvm.Cond.code ({ cls := "RelayPassages", name := "checkBooking", desc := "(III)V" } : Jvm.MethodName) prog_1_method_22_code (4 : Nat) (Option.none : Option Jvm.ClassFile.FieldType)) ∈ m_tall := m_in 294 (by decide +kernel) rfl
theorem mw_295 : (Jvm.Cond.stringRef "RelayPassages" (161 : Nat) "no tick to book for") ∈ m_tall := m_in 295 (by decide +kernel) rfl
theorem mw_296 : (Jvm.Cond.stringRef "RelayPassages" (163 : Nat) "32 handles are given") ∈ m_tall := m_in 296 (by decide +kernel) rfl
theorem mw_297 : (Jvm.Cond.methodLink "RelayPassages" (87 : Nat) ({ cls := "RelayPassages$WayFinder", name := "seek", desc := "(LRelayPassages$Network;III)I" } : Jvm.MethodName)) ∈ m_tall := m_in 297 (by decide +kernel) rfl
theorem mw_298 : (Jvm.Cond.instanceMethod ({ cls := "RelayPassages$WayFinder", name := "seek", desc := "(LRelayPassages$Network;III)I" } : Jvm.MethodName)) ∈ m_tall := m_in 298 (by decide +kernel) rfl
theorem mw_299 : (Jvm.Cond.selects "RelayPassages$WayFinder" ({ cls := "RelayPassages$WayFinder", name := "seek", desc := "(LRelayPassages$Network;III)I" } : Jvm.MethodName) ({ cls := "RelayPassages$WayFinder", name := "seek", desc := "(LRelayPassages$Network;III)I" } : Jvm.MethodName)) ∈ m_tall := m_in 299 (by decide +kernel) rfl
theorem mw_300 : (Jvm.Cond.code ({ cls := "RelayPassages$WayFinder", name := "seek", desc := "(LRelayPassages$Network;III)I" } : Jvm.MethodName) prog_4_method_2_code (6 : Nat) (Option.some Jvm.ClassFile.FieldType.int)) ∈ m_tall := m_in 300 (by decide +kernel) rfl
theorem mw_301 : (Jvm.Cond.methodLink "RelayPassages$WayFinder" (18 : Nat) ({ cls := "RelayPassages$WayFinder", name := "soonestEnd", desc := "(LRelayPassages$Network;III)I" } : Jvm.MethodName)) ∈ m_tall := m_in 301 (by decide +kernel) rfl
theorem mw_302 : (Jvm.Cond.static ({ cls := "RelayPassages$WayFinder", name := "soonestEnd", desc := "(LRelayPassages$Network;III)I" } : Jvm.MethodName)) ∈ m_tall := m_in 302 (by decide +kernel) rfl
theorem mw_303 : (Jvm.Cond.code ({ cls := "RelayPassages$WayFinder", name := "soonestEnd", desc := "(LRelayPassages$Network;III)I" } : Jvm.MethodName) prog_4_method_3_code (6 : Nat) (Option.some Jvm.ClassFile.FieldType.int)) ∈ m_tall := m_in 303 (by decide +kernel) rfl
theorem mw_304 : (Jvm.Cond.methodLink "RelayPassages$WayFinder" (29 : Nat) ({ cls := "RelayPassages$WayFinder", name := "onwardOfAll", desc := "(LRelayPassages$Network;II)I" } : Jvm.MethodName)) ∈ m_tall := m_in 304 (by decide +kernel) rfl
theorem mw_305 : (Jvm.Cond.static ({ cls := "RelayPassages$WayFinder", name := "onwardOfAll", desc := "(LRelayPassages$Network;II)I" } : Jvm.MethodName)) ∈ m_tall := m_in 305 (by decide +kernel) rfl
theorem mw_306 : (Jvm.Cond.code ({ cls := "RelayPassages$WayFinder", name := "onwardOfAll", desc := "(LRelayPassages$Network;II)I" } : Jvm.MethodName) prog_4_method_4_code (5 : Nat) (Option.some Jvm.ClassFile.FieldType.int)) ∈ m_tall := m_in 306 (by decide +kernel) rfl
theorem mw_307 : (Jvm.Cond.methodLinkNest "RelayPassages$WayFinder" (33 : Nat) ({ cls := "RelayPassages", name := "isInSet", desc := "(II)Z" } : Jvm.MethodName) "RelayPassages") ∈ m_tall := m_in 307 (by decide +kernel) rfl
theorem mw_308 : (Jvm.Cond.methodLink "RelayPassages$WayFinder" (37 : Nat) ({ cls := "RelayPassages$Network", name := "onward", desc := "(II)I" } : Jvm.MethodName)) ∈ m_tall := m_in 308 (by decide +kernel) rfl
theorem mw_309 : (Jvm.Cond.instanceMethod ({ cls := "RelayPassages$Network", name := "onward", desc := "(II)I" } : Jvm.MethodName)) ∈ m_tall := m_in 309 (by decide +kernel) rfl
theorem mw_310 : (Jvm.Cond.selects "RelayPassages$Network" ({ cls := "RelayPassages$Network", name := "onward", desc := "(II)I" } : Jvm.MethodName) ({ cls := "RelayPassages$Network", name := "onward", desc := "(II)I" } : Jvm.MethodName)) ∈ m_tall := m_in 310 (by decide +kernel) rfl
theorem mw_311 : (Jvm.Cond.code ({ cls := "RelayPassages$Network", name := "onward", desc := "(II)I" } : Jvm.MethodName) prog_2_method_12_code (5 : Nat) (Option.some Jvm.ClassFile.FieldType.int)) ∈ m_tall := m_in 311 (by decide +kernel) rfl
theorem mw_312 : (Jvm.Cond.methodLink "RelayPassages$WayFinder" (22 : Nat) ({ cls := "RelayPassages$WayFinder", name := "markLeading", desc := "(LRelayPassages$Network;III)V" } : Jvm.MethodName)) ∈ m_tall := m_in 312 (by decide +kernel) rfl
theorem mw_314 : (Jvm.Cond.instanceMethod ({ cls := "RelayPassages$WayFinder", name := "markLeading", desc := "(LRelayPassages$Network;III)V" } : Jvm.MethodName)) ∈ m_tall := m_in 314 (by decide +kernel) rfl
theorem mw_315 : (Jvm.Cond.code ({ cls := "RelayPassages$WayFinder", name := "markLeading", desc := "(LRelayPassages$Network;III)V" } : Jvm.MethodName) prog_4_method_5_code (8 : Nat) (Option.none : Option Jvm.ClassFile.FieldType)) ∈ m_tall := m_in 315 (by decide +kernel) rfl
theorem mw_316 : (Jvm.Cond.methodLink "RelayPassages$WayFinder" (26 : Nat) ({ cls := "RelayPassages$WayFinder", name := "walk", desc := "(LRelayPassages$Network;III)V" } : Jvm.MethodName)) ∈ m_tall := m_in 316 (by decide +kernel) rfl
theorem mw_318 : (Jvm.Cond.instanceMethod ({ cls := "RelayPassages$WayFinder", name := "walk", desc := "(LRelayPassages$Network;III)V" } : Jvm.MethodName)) ∈ m_tall := m_in 318 (by decide +kernel) rfl
theorem mw_319 : (Jvm.Cond.code ({ cls := "RelayPassages$WayFinder", name := "walk", desc := "(LRelayPassages$Network;III)V" } : Jvm.MethodName) prog_4_method_6_code (6 : Nat) (Option.none : Option Jvm.ClassFile.FieldType)) ∈ m_tall := m_in 319 (by decide +kernel) rfl
theorem mw_320 : (Jvm.Cond.methodLink "RelayPassages$WayFinder" (43 : Nat) ({ cls := "RelayPassages$WayFinder", name := "leastOf", desc := "(I)I" } : Jvm.MethodName)) ∈ m_tall := m_in 320 (by decide +kernel) rfl
theorem mw_321 : (Jvm.Cond.static ({ cls := "RelayPassages$WayFinder", name := "leastOf", desc := "(I)I" } : Jvm.MethodName)) ∈ m_tall := m_in 321 (by decide +kernel) rfl
theorem mw_322 : (Jvm.Cond.code ({ cls := "RelayPassages$WayFinder", name := "leastOf", desc := "(I)I" } : Jvm.MethodName) prog_4_method_7_code (2 : Nat) (Option.some Jvm.ClassFile.FieldType.int)) ∈ m_tall := m_in 322 (by decide +kernel) rfl
theorem mw_323 : (Jvm.Cond.instantiable "RelayPassages$Parcel" (5 : Nat)) ∈ m_tall := m_in 323 (by decide +kernel) rfl
theorem mw_324 : (Jvm.Cond.methodLink "RelayPassages" (91 : Nat) ({ cls := "RelayPassages$Parcel", name := "<init>", desc := "(II)V" } : Jvm.MethodName)) ∈ m_tall := m_in 324 (by decide +kernel) rfl
theorem mw_325 : (Jvm.Cond.instanceMethod ({ cls := "RelayPassages$Parcel", name := "<init>", desc := "(II)V" } : Jvm.MethodName)) ∈ m_tall := m_in 325 (by decide +kernel) rfl
theorem mw_326 : (Jvm.Cond.code ({ cls := "RelayPassages$Parcel", name := "<init>", desc := "(II)V" } : Jvm.MethodName) prog_3_method_1_code (3 : Nat) (Option.none : Option Jvm.ClassFile.FieldType)) ∈ m_tall := m_in 326 (by decide +kernel) rfl
theorem mw_327 : (Jvm.Cond.methodLink "RelayPassages$Parcel" (3 : Nat) ({ cls := "java/lang/Object", name := "<init>", desc := "()V" } : Jvm.MethodName)) ∈ m_tall := m_in 327 (by decide +kernel) rfl
theorem mw_328 : (Jvm.Cond.fieldLink "RelayPassages$Parcel" (22 : Nat) "RelayPassages$Parcel" "goal" "I") ∈ m_tall := m_in 328 (by decide +kernel) rfl
theorem mw_329 : (Jvm.Cond.fieldLink "RelayPassages" (189 : Nat) "RelayPassages$Parcel" "goal" "I") ∈ m_tall := m_in 329 (by decide +kernel) rfl
theorem mw_330 : (Jvm.Cond.fieldLink "RelayPassages$Parcel" (25 : Nat) "RelayPassages$Parcel" "at" "I") ∈ m_tall := m_in 330 (by decide +kernel) rfl
theorem mw_331 : (Jvm.Cond.fieldLink "RelayPassages" (174 : Nat) "RelayPassages$Parcel" "at" "I") ∈ m_tall := m_in 331 (by decide +kernel) rfl
theorem mw_332 : (Jvm.Cond.fieldLink "RelayPassages$Parcel" (9 : Nat) "RelayPassages$Parcel" "nodes" "[I") ∈ m_tall := m_in 332 (by decide +kernel) rfl
theorem mw_333 : (Jvm.Cond.fieldLink "RelayPassages" (165 : Nat) "RelayPassages$Parcel" "nodes" "[I") ∈ m_tall := m_in 333 (by decide +kernel) rfl
theorem mw_334 : (Jvm.Cond.fieldLink "RelayPassages$Parcel" (15 : Nat) "RelayPassages$Parcel" "last" "I") ∈ m_tall := m_in 334 (by decide +kernel) rfl
theorem mw_335 : (Jvm.Cond.fieldLink "RelayPassages" (135 : Nat) "RelayPassages$Parcel" "last" "I") ∈ m_tall := m_in 335 (by decide +kernel) rfl
theorem mw_336 : (Jvm.Cond.fieldLink "RelayPassages$Parcel" (19 : Nat) "RelayPassages$Parcel" "fate" "I") ∈ m_tall := m_in 336 (by decide +kernel) rfl
theorem mw_337 : (Jvm.Cond.fieldLink "RelayPassages" (111 : Nat) "RelayPassages$Parcel" "fate" "I") ∈ m_tall := m_in 337 (by decide +kernel) rfl
theorem mw_338 : (Jvm.Cond.laysFinal "RelayPassages$Parcel" "RelayPassages$Parcel" "goal" "I") ∈ m_tall := m_in 338 (by decide +kernel) rfl
theorem mw_340 : (Jvm.Cond.laysFinal "RelayPassages$Parcel" "RelayPassages$Parcel" "at" "I") ∈ m_tall := m_in 340 (by decide +kernel) rfl
theorem mw_342 : (Jvm.Cond.laysFinal "RelayPassages$Parcel" "RelayPassages$Parcel" "nodes" "[I") ∈ m_tall := m_in 342 (by decide +kernel) rfl
theorem mw_344 : (Jvm.Cond.lays "RelayPassages$Parcel" "RelayPassages$Parcel" "last" "I") ∈ m_tall := m_in 344 (by decide +kernel) rfl
theorem mw_346 : (Jvm.Cond.lays "RelayPassages$Parcel" "RelayPassages$Parcel" "fate" "I") ∈ m_tall := m_in 346 (by decide +kernel) rfl
theorem mw_349 : (Jvm.Cond.methodLink "RelayPassages" (93 : Nat) ({ cls := "RelayPassages", name := "giveJourney", desc := "(LRelayPassages$Parcel;II)V" } : Jvm.MethodName)) ∈ m_tall := m_in 349 (by decide +kernel) rfl
theorem mw_351 : (Jvm.Cond.instanceMethod ({ cls := "RelayPassages", name := "giveJourney", desc := "(LRelayPassages$Parcel;II)V" } : Jvm.MethodName)) ∈ m_tall := m_in 351 (by decide +kernel) rfl
theorem mw_352 : (Jvm.Cond.code ({ cls := "RelayPassages", name := "giveJourney", desc := "(LRelayPassages$Parcel;II)V" } : Jvm.MethodName) prog_1_method_23_code (5 : Nat) (Option.none : Option Jvm.ClassFile.FieldType)) ∈ m_tall := m_in 352 (by decide +kernel) rfl
theorem mw_353 : (Jvm.Cond.methodLink "RelayPassages" (171 : Nat) ({ cls := "RelayPassages$Network", name := "take", desc := "(III)V" } : Jvm.MethodName)) ∈ m_tall := m_in 353 (by decide +kernel) rfl
theorem mw_354 : (Jvm.Cond.instanceMethod ({ cls := "RelayPassages$Network", name := "take", desc := "(III)V" } : Jvm.MethodName)) ∈ m_tall := m_in 354 (by decide +kernel) rfl
theorem mw_355 : (Jvm.Cond.selects "RelayPassages$Network" ({ cls := "RelayPassages$Network", name := "take", desc := "(III)V" } : Jvm.MethodName) ({ cls := "RelayPassages$Network", name := "take", desc := "(III)V" } : Jvm.MethodName)) ∈ m_tall := m_in 355 (by decide +kernel) rfl
theorem mw_356 : (Jvm.Cond.code ({ cls := "RelayPassages$Network", name := "take", desc := "(III)V" } : Jvm.MethodName) prog_2_method_13_code (4 : Nat) (Option.none : Option Jvm.ClassFile.FieldType)) ∈ m_tall := m_in 356 (by decide +kernel) rfl
theorem mw_357 : (Jvm.Cond.methodLink "RelayPassagesLaw" (66 : Nat) ({ cls := "RelayPassagesLaw", name := "whatIf", desc := "(LRelayPassages;III[J)I" } : Jvm.MethodName)) ∈ m_tall := m_in 357 (by decide +kernel) rfl
theorem mw_358 : (Jvm.Cond.static ({ cls := "RelayPassagesLaw", name := "whatIf", desc := "(LRelayPassages;III[J)I" } : Jvm.MethodName)) ∈ m_tall := m_in 358 (by decide +kernel) rfl
theorem mw_359 : (Jvm.Cond.codeWith ({ cls := "RelayPassagesLaw", name := "whatIf", desc := "(LRelayPassages;III[J)I" } : Jvm.MethodName) method_6_code (6 : Nat) (Option.some Jvm.ClassFile.FieldType.int) [((0 : Nat), (12 : Nat), (15 : Nat), (13 : Nat)), ((0 : Nat), (12 : Nat), (19 : Nat), (15 : Nat))]) ∈ m_tall := m_in 359 (by decide +kernel) rfl
theorem mw_360 : (Jvm.Cond.methodLink "RelayPassagesLaw" (25 : Nat) ({ cls := "RelayPassages", name := "whatIf", desc := "(III)I" } : Jvm.MethodName)) ∈ m_tall := m_in 360 (by decide +kernel) rfl
theorem mw_361 : (Jvm.Cond.instanceMethod ({ cls := "RelayPassages", name := "whatIf", desc := "(III)I" } : Jvm.MethodName)) ∈ m_tall := m_in 361 (by decide +kernel) rfl
theorem mw_362 : (Jvm.Cond.selects "RelayPassages" ({ cls := "RelayPassages", name := "whatIf", desc := "(III)I" } : Jvm.MethodName) ({ cls := "RelayPassages", name := "whatIf", desc := "(III)I" } : Jvm.MethodName)) ∈ m_tall := m_in 362 (by decide +kernel) rfl
theorem mw_363 : (Jvm.Cond.code ({ cls := "RelayPassages", name := "whatIf", desc := "(III)I" } : Jvm.MethodName) prog_1_method_6_code (4 : Nat) (Option.some Jvm.ClassFile.FieldType.int)) ∈ m_tall := m_in 363 (by decide +kernel) rfl
theorem mw_364 : (Jvm.Cond.methodLink "RelayPassagesLaw" (69 : Nat) ({ cls := "RelayPassagesLaw", name := "cancel", desc := "(LRelayPassages;I[J)I" } : Jvm.MethodName)) ∈ m_tall := m_in 364 (by decide +kernel) rfl
theorem mw_365 : (Jvm.Cond.static ({ cls := "RelayPassagesLaw", name := "cancel", desc := "(LRelayPassages;I[J)I" } : Jvm.MethodName)) ∈ m_tall := m_in 365 (by decide +kernel) rfl
theorem mw_366 : (Jvm.Cond.codeWith ({ cls := "RelayPassagesLaw", name := "cancel", desc := "(LRelayPassages;I[J)I" } : Jvm.MethodName) method_7_code (4 : Nat) (Option.some Jvm.ClassFile.FieldType.int) [((0 : Nat), (9 : Nat), (12 : Nat), (32 : Nat)), ((0 : Nat), (9 : Nat), (15 : Nat), (15 : Nat))]) ∈ m_tall := m_in 366 (by decide +kernel) rfl
theorem mw_367 : (Jvm.Cond.classLink "RelayPassagesLaw" (32 : Nat) "java/util/NoSuchElementException") ∈ m_tall := m_in 367 (by decide +kernel) rfl
theorem mw_368 : (Jvm.Cond.methodLink "RelayPassagesLaw" (28 : Nat) ({ cls := "RelayPassages", name := "cancel", desc := "(I)I" } : Jvm.MethodName)) ∈ m_tall := m_in 368 (by decide +kernel) rfl
theorem mw_369 : (Jvm.Cond.instanceMethod ({ cls := "RelayPassages", name := "cancel", desc := "(I)I" } : Jvm.MethodName)) ∈ m_tall := m_in 369 (by decide +kernel) rfl
theorem mw_370 : (Jvm.Cond.selects "RelayPassages" ({ cls := "RelayPassages", name := "cancel", desc := "(I)I" } : Jvm.MethodName) ({ cls := "RelayPassages", name := "cancel", desc := "(I)I" } : Jvm.MethodName)) ∈ m_tall := m_in 370 (by decide +kernel) rfl
theorem mw_371 : (Jvm.Cond.code ({ cls := "RelayPassages", name := "cancel", desc := "(I)I" } : Jvm.MethodName) prog_1_method_7_code (3 : Nat) (Option.some Jvm.ClassFile.FieldType.int)) ∈ m_tall := m_in 371 (by decide +kernel) rfl
theorem mw_372 : (Jvm.Cond.classLink "RelayPassages" (101 : Nat) "java/util/NoSuchElementException") ∈ m_tall := m_in 372 (by decide +kernel) rfl
theorem mw_374 : (Jvm.Cond.castable "java/util/NoSuchElementException" "java/util/NoSuchElementException") ∈ m_tall := m_in 374 (by decide +kernel) rfl
theorem mw_381 : (Jvm.Cond.stringRef "RelayPassages" (103 : Nat) "there is no such parcel") ∈ m_tall := m_in 381 (by decide +kernel) rfl
theorem mw_388 : (Jvm.Cond.methodLink "RelayPassages" (106 : Nat) ({ cls := "RelayPassages$Parcel", name := "isUnderWay", desc := "(I)Z" } : Jvm.MethodName)) ∈ m_tall := m_in 388 (by decide +kernel) rfl
theorem mw_389 : (Jvm.Cond.instanceMethod ({ cls := "RelayPassages$Parcel", name := "isUnderWay", desc := "(I)Z" } : Jvm.MethodName)) ∈ m_tall := m_in 389 (by decide +kernel) rfl
theorem mw_390 : (Jvm.Cond.selects "RelayPassages$Parcel" ({ cls := "RelayPassages$Parcel", name := "isUnderWay", desc := "(I)Z" } : Jvm.MethodName) ({ cls := "RelayPassages$Parcel", name := "isUnderWay", desc := "(I)Z" } : Jvm.MethodName)) ∈ m_tall := m_in 390 (by decide +kernel) rfl
theorem mw_391 : (Jvm.Cond.code ({ cls := "RelayPassages$Parcel", name := "isUnderWay", desc := "(I)Z" } : Jvm.MethodName) prog_3_method_3_code (3 : Nat) (Option.some Jvm.ClassFile.FieldType.boolean)) ∈ m_tall := m_in 391 (by decide +kernel) rfl
theorem mw_392 : (Jvm.Cond.methodLink "RelayPassages$Parcel" (28 : Nat) ({ cls := "RelayPassages$Parcel", name := "stateAt", desc := "(I)I" } : Jvm.MethodName)) ∈ m_tall := m_in 392 (by decide +kernel) rfl
theorem mw_393 : (Jvm.Cond.stringRef "RelayPassages" (109 : Nat) "the parcel is neither booked nor travelling") ∈ m_tall := m_in 393 (by decide +kernel) rfl
theorem mw_394 : (Jvm.Cond.methodLink "RelayPassages" (114 : Nat) ({ cls := "RelayPassages", name := "cutOff", desc := "(LRelayPassages$Parcel;)I" } : Jvm.MethodName)) ∈ m_tall := m_in 394 (by decide +kernel) rfl
theorem mw_396 : (Jvm.Cond.instanceMethod ({ cls := "RelayPassages", name := "cutOff", desc := "(LRelayPassages$Parcel;)I" } : Jvm.MethodName)) ∈ m_tall := m_in 396 (by decide +kernel) rfl
theorem mw_397 : (Jvm.Cond.code ({ cls := "RelayPassages", name := "cutOff", desc := "(LRelayPassages$Parcel;)I" } : Jvm.MethodName) prog_1_method_24_code (5 : Nat) (Option.some Jvm.ClassFile.FieldType.int)) ∈ m_tall := m_in 397 (by decide +kernel) rfl
theorem mw_398 : (Jvm.Cond.methodLink "RelayPassages" (177 : Nat) ({ cls := "java/lang/Math", name := "max", desc := "(II)I" } : Jvm.MethodName)) ∈ m_tall := m_in 398 (by decide +kernel) rfl
theorem mw_399 : (Jvm.Cond.static ({ cls := "java/lang/Math", name := "max", desc := "(II)I" } : Jvm.MethodName)) ∈ m_tall := m_in 399 (by decide +kernel) rfl
theorem mw_400 : (Jvm.Cond.code ({ cls := "java/lang/Math", name := "max", desc := "(II)I" } : Jvm.MethodName) prog_10_method_65_code (2 : Nat) (Option.some Jvm.ClassFile.FieldType.int)) ∈ m_tall := m_in 400 (by decide +kernel) rfl
theorem mw_401 : (Jvm.Cond.methodLink "RelayPassages" (182 : Nat) ({ cls := "RelayPassages$Network", name := "giveBack", desc := "(III)V" } : Jvm.MethodName)) ∈ m_tall := m_in 401 (by decide +kernel) rfl
theorem mw_402 : (Jvm.Cond.instanceMethod ({ cls := "RelayPassages$Network", name := "giveBack", desc := "(III)V" } : Jvm.MethodName)) ∈ m_tall := m_in 402 (by decide +kernel) rfl
theorem mw_403 : (Jvm.Cond.selects "RelayPassages$Network" ({ cls := "RelayPassages$Network", name := "giveBack", desc := "(III)V" } : Jvm.MethodName) ({ cls := "RelayPassages$Network", name := "giveBack", desc := "(III)V" } : Jvm.MethodName)) ∈ m_tall := m_in 403 (by decide +kernel) rfl
theorem mw_404 : (Jvm.Cond.code ({ cls := "RelayPassages$Network", name := "giveBack", desc := "(III)V" } : Jvm.MethodName) prog_2_method_14_code (4 : Nat) (Option.none : Option Jvm.ClassFile.FieldType)) ∈ m_tall := m_in 404 (by decide +kernel) rfl
theorem mw_405 : (Jvm.Cond.methodLink "RelayPassagesLaw" (73 : Nat) ({ cls := "RelayPassagesLaw", name := "cut", desc := "(LRelayPassages;II[J)I" } : Jvm.MethodName)) ∈ m_tall := m_in 405 (by decide +kernel) rfl
theorem mw_406 : (Jvm.Cond.static ({ cls := "RelayPassagesLaw", name := "cut", desc := "(LRelayPassages;II[J)I" } : Jvm.MethodName)) ∈ m_tall := m_in 406 (by decide +kernel) rfl
theorem mw_407 : (Jvm.Cond.codeWith ({ cls := "RelayPassagesLaw", name := "cut", desc := "(LRelayPassages;II[J)I" } : Jvm.MethodName) method_8_code (5 : Nat) (Option.some Jvm.ClassFile.FieldType.int) [((0 : Nat), (10 : Nat), (13 : Nat), (13 : Nat))]) ∈ m_tall := m_in 407 (by decide +kernel) rfl
theorem mw_408 : (Jvm.Cond.methodLink "RelayPassagesLaw" (34 : Nat) ({ cls := "RelayPassages", name := "cut", desc := "(II)I" } : Jvm.MethodName)) ∈ m_tall := m_in 408 (by decide +kernel) rfl
theorem mw_409 : (Jvm.Cond.instanceMethod ({ cls := "RelayPassages", name := "cut", desc := "(II)I" } : Jvm.MethodName)) ∈ m_tall := m_in 409 (by decide +kernel) rfl
theorem mw_410 : (Jvm.Cond.selects "RelayPassages" ({ cls := "RelayPassages", name := "cut", desc := "(II)I" } : Jvm.MethodName) ({ cls := "RelayPassages", name := "cut", desc := "(II)I" } : Jvm.MethodName)) ∈ m_tall := m_in 410 (by decide +kernel) rfl
theorem mw_411 : (Jvm.Cond.code ({ cls := "RelayPassages", name := "cut", desc := "(II)I" } : Jvm.MethodName) prog_1_method_8_code (8 : Nat) (Option.some Jvm.ClassFile.FieldType.int)) ∈ m_tall := m_in 411 (by decide +kernel) rfl
theorem mw_412 : (Jvm.Cond.methodLink "RelayPassages" (118 : Nat) ({ cls := "RelayPassages$Network", name := "closeFrom", desc := "(III)V" } : Jvm.MethodName)) ∈ m_tall := m_in 412 (by decide +kernel) rfl
theorem mw_413 : (Jvm.Cond.instanceMethod ({ cls := "RelayPassages$Network", name := "closeFrom", desc := "(III)V" } : Jvm.MethodName)) ∈ m_tall := m_in 413 (by decide +kernel) rfl
theorem mw_414 : (Jvm.Cond.selects "RelayPassages$Network" ({ cls := "RelayPassages$Network", name := "closeFrom", desc := "(III)V" } : Jvm.MethodName) ({ cls := "RelayPassages$Network", name := "closeFrom", desc := "(III)V" } : Jvm.MethodName)) ∈ m_tall := m_in 414 (by decide +kernel) rfl
theorem mw_415 : (Jvm.Cond.code ({ cls := "RelayPassages$Network", name := "closeFrom", desc := "(III)V" } : Jvm.MethodName) prog_2_method_8_code (5 : Nat) (Option.none : Option Jvm.ClassFile.FieldType)) ∈ m_tall := m_in 415 (by decide +kernel) rfl
theorem mw_416 : (Jvm.Cond.methodLink "RelayPassages" (121 : Nat) ({ cls := "RelayPassages", name := "cutOffTouched", desc := "(II)J" } : Jvm.MethodName)) ∈ m_tall := m_in 416 (by decide +kernel) rfl
theorem mw_418 : (Jvm.Cond.instanceMethod ({ cls := "RelayPassages", name := "cutOffTouched", desc := "(II)J" } : Jvm.MethodName)) ∈ m_tall := m_in 418 (by decide +kernel) rfl
theorem mw_419 : (Jvm.Cond.code ({ cls := "RelayPassages", name := "cutOffTouched", desc := "(II)J" } : Jvm.MethodName) prog_1_method_25_code (7 : Nat) (Option.some Jvm.ClassFile.FieldType.long)) ∈ m_tall := m_in 419 (by decide +kernel) rfl
theorem mw_420 : (Jvm.Cond.methodLink "RelayPassages" (185 : Nat) ({ cls := "RelayPassages$Parcel", name := "usesPairFrom", desc := "(III)Z" } : Jvm.MethodName)) ∈ m_tall := m_in 420 (by decide +kernel) rfl
theorem mw_421 : (Jvm.Cond.instanceMethod ({ cls := "RelayPassages$Parcel", name := "usesPairFrom", desc := "(III)Z" } : Jvm.MethodName)) ∈ m_tall := m_in 421 (by decide +kernel) rfl
theorem mw_422 : (Jvm.Cond.selects "RelayPassages$Parcel" ({ cls := "RelayPassages$Parcel", name := "usesPairFrom", desc := "(III)Z" } : Jvm.MethodName) ({ cls := "RelayPassages$Parcel", name := "usesPairFrom", desc := "(III)Z" } : Jvm.MethodName)) ∈ m_tall := m_in 422 (by decide +kernel) rfl
theorem mw_423 : (Jvm.Cond.code ({ cls := "RelayPassages$Parcel", name := "usesPairFrom", desc := "(III)Z" } : Jvm.MethodName) prog_3_method_5_code (7 : Nat) (Option.some Jvm.ClassFile.FieldType.boolean)) ∈ m_tall := m_in 423 (by decide +kernel) rfl
theorem mw_424 : (Jvm.Cond.methodLink "RelayPassages$Parcel" (32 : Nat) ({ cls := "java/lang/Math", name := "max", desc := "(II)I" } : Jvm.MethodName)) ∈ m_tall := m_in 424 (by decide +kernel) rfl
theorem mw_425 : (Jvm.Cond.methodLink "RelayPassages" (125 : Nat) ({ cls := "RelayPassages", name := "bookAnew", desc := "(LRelayPassages$Parcel;)Z" } : Jvm.MethodName)) ∈ m_tall := m_in 425 (by decide +kernel) rfl
theorem mw_427 : (Jvm.Cond.instanceMethod ({ cls := "RelayPassages", name := "bookAnew", desc := "(LRelayPassages$Parcel;)Z" } : Jvm.MethodName)) ∈ m_tall := m_in 427 (by decide +kernel) rfl
theorem mw_428 : (Jvm.Cond.code ({ cls := "RelayPassages", name := "bookAnew", desc := "(LRelayPassages$Parcel;)Z" } : Jvm.MethodName) prog_1_method_26_code (4 : Nat) (Option.some Jvm.ClassFile.FieldType.boolean)) ∈ m_tall := m_in 428 (by decide +kernel) rfl
theorem mw_429 : (Jvm.Cond.methodLink "RelayPassagesLaw" (76 : Nat) ({ cls := "RelayPassagesLaw", name := "tick", desc := "(LRelayPassages;[J)I" } : Jvm.MethodName)) ∈ m_tall := m_in 429 (by decide +kernel) rfl
theorem mw_430 : (Jvm.Cond.static ({ cls := "RelayPassagesLaw", name := "tick", desc := "(LRelayPassages;[J)I" } : Jvm.MethodName)) ∈ m_tall := m_in 430 (by decide +kernel) rfl
theorem mw_431 : (Jvm.Cond.codeWith ({ cls := "RelayPassagesLaw", name := "tick", desc := "(LRelayPassages;[J)I" } : Jvm.MethodName) method_9_code (3 : Nat) (Option.some Jvm.ClassFile.FieldType.int) [((0 : Nat), (8 : Nat), (11 : Nat), (15 : Nat))]) ∈ m_tall := m_in 431 (by decide +kernel) rfl
theorem mw_432 : (Jvm.Cond.methodLink "RelayPassagesLaw" (37 : Nat) ({ cls := "RelayPassages", name := "tick", desc := "()I" } : Jvm.MethodName)) ∈ m_tall := m_in 432 (by decide +kernel) rfl
theorem mw_433 : (Jvm.Cond.instanceMethod ({ cls := "RelayPassages", name := "tick", desc := "()I" } : Jvm.MethodName)) ∈ m_tall := m_in 433 (by decide +kernel) rfl
theorem mw_434 : (Jvm.Cond.selects "RelayPassages" ({ cls := "RelayPassages", name := "tick", desc := "()I" } : Jvm.MethodName) ({ cls := "RelayPassages", name := "tick", desc := "()I" } : Jvm.MethodName)) ∈ m_tall := m_in 434 (by decide +kernel) rfl
theorem mw_435 : (Jvm.Cond.code ({ cls := "RelayPassages", name := "tick", desc := "()I" } : Jvm.MethodName) prog_1_method_9_code (4 : Nat) (Option.some Jvm.ClassFile.FieldType.int)) ∈ m_tall := m_in 435 (by decide +kernel) rfl
theorem mw_436 : (Jvm.Cond.stringRef "RelayPassages" (129 : Nat) "NOW is 64") ∈ m_tall := m_in 436 (by decide +kernel) rfl
theorem mw_437 : (Jvm.Cond.classLink "RelayPassagesLaw" (42 : Nat) "RelayPassagesModel") ∈ m_tall := m_in 437 (by decide +kernel) rfl
theorem mw_438 : (Jvm.Cond.instantiable "RelayPassagesModel" (15 : Nat)) ∈ m_tall := m_in 438 (by decide +kernel) rfl
theorem mw_439 : (Jvm.Cond.methodLink "RelayPassagesLaw" (44 : Nat) ({ cls := "RelayPassagesModel", name := "<init>", desc := "()V" } : Jvm.MethodName)) ∈ m_tall := m_in 439 (by decide +kernel) rfl
theorem mw_440 : (Jvm.Cond.instanceMethod ({ cls := "RelayPassagesModel", name := "<init>", desc := "()V" } : Jvm.MethodName)) ∈ m_tall := m_in 440 (by decide +kernel) rfl
theorem mw_441 : (Jvm.Cond.code ({ cls := "RelayPassagesModel", name := "<init>", desc := "()V" } : Jvm.MethodName) prog_6_method_1_code (1 : Nat) (Option.none : Option Jvm.ClassFile.FieldType)) ∈ m_tall := m_in 441 (by decide +kernel) rfl
theorem mw_442 : (Jvm.Cond.methodLink "RelayPassagesModel" (1 : Nat) ({ cls := "java/lang/Object", name := "<init>", desc := "()V" } : Jvm.MethodName)) ∈ m_tall := m_in 442 (by decide +kernel) rfl
theorem mw_443 : (Jvm.Cond.fieldLink "RelayPassagesModel" (44 : Nat) "RelayPassagesModel" "thrown" "I") ∈ m_tall := m_in 443 (by decide +kernel) rfl
theorem mw_444 : (Jvm.Cond.fieldLink "RelayPassagesModel" (81 : Nat) "RelayPassagesModel" "time" "I") ∈ m_tall := m_in 444 (by decide +kernel) rfl
theorem mw_445 : (Jvm.Cond.fieldLink "RelayPassagesModel" (74 : Nat) "RelayPassagesModel" "contacts" "I") ∈ m_tall := m_in 445 (by decide +kernel) rfl
theorem mw_446 : (Jvm.Cond.fieldLink "RelayPassagesModel" (7 : Nat) "RelayPassagesModel" "places" "[I") ∈ m_tall := m_in 446 (by decide +kernel) rfl
theorem mw_447 : (Jvm.Cond.fieldLink "RelayPassagesModel" (13 : Nat) "RelayPassagesModel" "opens" "[Z") ∈ m_tall := m_in 447 (by decide +kernel) rfl
theorem mw_448 : (Jvm.Cond.fieldLink "RelayPassagesModel" (52 : Nat) "RelayPassagesModel" "parcels" "I") ∈ m_tall := m_in 448 (by decide +kernel) rfl
theorem mw_449 : (Jvm.Cond.fieldLink "RelayPassagesModel" (17 : Nat) "RelayPassagesModel" "goals" "[I") ∈ m_tall := m_in 449 (by decide +kernel) rfl
theorem mw_450 : (Jvm.Cond.fieldLink "RelayPassagesModel" (20 : Nat) "RelayPassagesModel" "sources" "[I") ∈ m_tall := m_in 450 (by decide +kernel) rfl
theorem mw_451 : (Jvm.Cond.fieldLink "RelayPassagesModel" (23 : Nat) "RelayPassagesModel" "starts" "[I") ∈ m_tall := m_in 451 (by decide +kernel) rfl
theorem mw_452 : (Jvm.Cond.fieldLink "RelayPassagesModel" (26 : Nat) "RelayPassagesModel" "ends" "[I") ∈ m_tall := m_in 452 (by decide +kernel) rfl
theorem mw_453 : (Jvm.Cond.fieldLink "RelayPassagesModel" (29 : Nat) "RelayPassagesModel" "firsts" "[I") ∈ m_tall := m_in 453 (by decide +kernel) rfl
theorem mw_454 : (Jvm.Cond.fieldLink "RelayPassagesModel" (32 : Nat) "RelayPassagesModel" "lasts" "[I") ∈ m_tall := m_in 454 (by decide +kernel) rfl
theorem mw_455 : (Jvm.Cond.fieldLink "RelayPassagesModel" (35 : Nat) "RelayPassagesModel" "nodes" "[I") ∈ m_tall := m_in 455 (by decide +kernel) rfl
theorem mw_456 : (Jvm.Cond.fieldLink "RelayPassagesModel" (38 : Nat) "RelayPassagesModel" "touched" "[Z") ∈ m_tall := m_in 456 (by decide +kernel) rfl
theorem mw_457 : (Jvm.Cond.fieldLink "RelayPassagesModel" (41 : Nat) "RelayPassagesModel" "early" "[I") ∈ m_tall := m_in 457 (by decide +kernel) rfl
theorem mw_458 : (Jvm.Cond.lays "RelayPassagesModel" "RelayPassagesModel" "thrown" "I") ∈ m_tall := m_in 458 (by decide +kernel) rfl
theorem mw_460 : (Jvm.Cond.lays "RelayPassagesModel" "RelayPassagesModel" "time" "I") ∈ m_tall := m_in 460 (by decide +kernel) rfl
theorem mw_462 : (Jvm.Cond.lays "RelayPassagesModel" "RelayPassagesModel" "contacts" "I") ∈ m_tall := m_in 462 (by decide +kernel) rfl
theorem mw_464 : (Jvm.Cond.laysFinal "RelayPassagesModel" "RelayPassagesModel" "places" "[I") ∈ m_tall := m_in 464 (by decide +kernel) rfl
theorem mw_466 : (Jvm.Cond.laysFinal "RelayPassagesModel" "RelayPassagesModel" "opens" "[Z") ∈ m_tall := m_in 466 (by decide +kernel) rfl
theorem mw_468 : (Jvm.Cond.lays "RelayPassagesModel" "RelayPassagesModel" "parcels" "I") ∈ m_tall := m_in 468 (by decide +kernel) rfl
theorem mw_470 : (Jvm.Cond.laysFinal "RelayPassagesModel" "RelayPassagesModel" "goals" "[I") ∈ m_tall := m_in 470 (by decide +kernel) rfl
theorem mw_472 : (Jvm.Cond.laysFinal "RelayPassagesModel" "RelayPassagesModel" "sources" "[I") ∈ m_tall := m_in 472 (by decide +kernel) rfl
theorem mw_474 : (Jvm.Cond.laysFinal "RelayPassagesModel" "RelayPassagesModel" "starts" "[I") ∈ m_tall := m_in 474 (by decide +kernel) rfl
theorem mw_476 : (Jvm.Cond.laysFinal "RelayPassagesModel" "RelayPassagesModel" "ends" "[I") ∈ m_tall := m_in 476 (by decide +kernel) rfl
theorem mw_478 : (Jvm.Cond.laysFinal "RelayPassagesModel" "RelayPassagesModel" "firsts" "[I") ∈ m_tall := m_in 478 (by decide +kernel) rfl
theorem mw_480 : (Jvm.Cond.laysFinal "RelayPassagesModel" "RelayPassagesModel" "lasts" "[I") ∈ m_tall := m_in 480 (by decide +kernel) rfl
theorem mw_482 : (Jvm.Cond.laysFinal "RelayPassagesModel" "RelayPassagesModel" "nodes" "[I") ∈ m_tall := m_in 482 (by decide +kernel) rfl
theorem mw_484 : (Jvm.Cond.laysFinal "RelayPassagesModel" "RelayPassagesModel" "touched" "[Z") ∈ m_tall := m_in 484 (by decide +kernel) rfl
theorem mw_486 : (Jvm.Cond.laysFinal "RelayPassagesModel" "RelayPassagesModel" "early" "[I") ∈ m_tall := m_in 486 (by decide +kernel) rfl
theorem mw_489 : (Jvm.Cond.arrayClass Jvm.ClassFile.FieldType.boolean) ∈ m_tall := m_in 489 (by decide +kernel) rfl
theorem mw_490 : (Jvm.Cond.methodLink "RelayPassagesLaw" (51 : Nat) ({ cls := "RelayPassagesModel", name := "thrown", desc := "()I" } : Jvm.MethodName)) ∈ m_tall := m_in 490 (by decide +kernel) rfl
theorem mw_491 : (Jvm.Cond.instanceMethod ({ cls := "RelayPassagesModel", name := "thrown", desc := "()I" } : Jvm.MethodName)) ∈ m_tall := m_in 491 (by decide +kernel) rfl
theorem mw_492 : (Jvm.Cond.selects "RelayPassagesModel" ({ cls := "RelayPassagesModel", name := "thrown", desc := "()I" } : Jvm.MethodName) ({ cls := "RelayPassagesModel", name := "thrown", desc := "()I" } : Jvm.MethodName)) ∈ m_tall := m_in 492 (by decide +kernel) rfl
theorem mw_493 : (Jvm.Cond.code ({ cls := "RelayPassagesModel", name := "thrown", desc := "()I" } : Jvm.MethodName) prog_6_method_2_code (1 : Nat) (Option.some Jvm.ClassFile.FieldType.int)) ∈ m_tall := m_in 493 (by decide +kernel) rfl
theorem mw_494 : (Jvm.Cond.methodLink "RelayPassagesLaw" (50 : Nat) ({ cls := "RelayPassagesModel", name := "node", desc := "(II)I" } : Jvm.MethodName)) ∈ m_tall := m_in 494 (by decide +kernel) rfl
theorem mw_495 : (Jvm.Cond.instanceMethod ({ cls := "RelayPassagesModel", name := "node", desc := "(II)I" } : Jvm.MethodName)) ∈ m_tall := m_in 495 (by decide +kernel) rfl
theorem mw_496 : (Jvm.Cond.selects "RelayPassagesModel" ({ cls := "RelayPassagesModel", name := "node", desc := "(II)I" } : Jvm.MethodName) ({ cls := "RelayPassagesModel", name := "node", desc := "(II)I" } : Jvm.MethodName)) ∈ m_tall := m_in 496 (by decide +kernel) rfl
theorem mw_497 : (Jvm.Cond.code ({ cls := "RelayPassagesModel", name := "node", desc := "(II)I" } : Jvm.MethodName) prog_6_method_14_code (5 : Nat) (Option.some Jvm.ClassFile.FieldType.int)) ∈ m_tall := m_in 497 (by decide +kernel) rfl
theorem mw_498 : (Jvm.Cond.methodLink "RelayPassagesLaw" (57 : Nat) ({ cls := "RelayPassagesModel", name := "contact", desc := "(IIII)I" } : Jvm.MethodName)) ∈ m_tall := m_in 498 (by decide +kernel) rfl
theorem mw_499 : (Jvm.Cond.instanceMethod ({ cls := "RelayPassagesModel", name := "contact", desc := "(IIII)I" } : Jvm.MethodName)) ∈ m_tall := m_in 499 (by decide +kernel) rfl
theorem mw_500 : (Jvm.Cond.selects "RelayPassagesModel" ({ cls := "RelayPassagesModel", name := "contact", desc := "(IIII)I" } : Jvm.MethodName) ({ cls := "RelayPassagesModel", name := "contact", desc := "(IIII)I" } : Jvm.MethodName)) ∈ m_tall := m_in 500 (by decide +kernel) rfl
theorem mw_501 : (Jvm.Cond.code ({ cls := "RelayPassagesModel", name := "contact", desc := "(IIII)I" } : Jvm.MethodName) prog_6_method_15_code (6 : Nat) (Option.some Jvm.ClassFile.FieldType.int)) ∈ m_tall := m_in 501 (by decide +kernel) rfl
theorem mw_502 : (Jvm.Cond.methodLink "RelayPassagesModel" (77 : Nat) ({ cls := "RelayPassagesModel", name := "noPair", desc := "(II)Z" } : Jvm.MethodName)) ∈ m_tall := m_in 502 (by decide +kernel) rfl
theorem mw_504 : (Jvm.Cond.instanceMethod ({ cls := "RelayPassagesModel", name := "noPair", desc := "(II)Z" } : Jvm.MethodName)) ∈ m_tall := m_in 504 (by decide +kernel) rfl
theorem mw_505 : (Jvm.Cond.code ({ cls := "RelayPassagesModel", name := "noPair", desc := "(II)Z" } : Jvm.MethodName) prog_6_method_4_code (3 : Nat) (Option.some Jvm.ClassFile.FieldType.boolean)) ∈ m_tall := m_in 505 (by decide +kernel) rfl
theorem mw_506 : (Jvm.Cond.methodLink "RelayPassagesModel" (48 : Nat) ({ cls := "RelayPassagesModel", name := "noNode", desc := "(I)Z" } : Jvm.MethodName)) ∈ m_tall := m_in 506 (by decide +kernel) rfl
theorem mw_508 : (Jvm.Cond.instanceMethod ({ cls := "RelayPassagesModel", name := "noNode", desc := "(I)Z" } : Jvm.MethodName)) ∈ m_tall := m_in 508 (by decide +kernel) rfl
theorem mw_509 : (Jvm.Cond.code ({ cls := "RelayPassagesModel", name := "noNode", desc := "(I)Z" } : Jvm.MethodName) prog_6_method_3_code (2 : Nat) (Option.some Jvm.ClassFile.FieldType.boolean)) ∈ m_tall := m_in 509 (by decide +kernel) rfl
theorem mw_510 : (Jvm.Cond.methodLink "RelayPassagesModel" (63 : Nat) ({ cls := "RelayPassagesModel", name := "isOpen", desc := "(III)Z" } : Jvm.MethodName)) ∈ m_tall := m_in 510 (by decide +kernel) rfl
theorem mw_512 : (Jvm.Cond.instanceMethod ({ cls := "RelayPassagesModel", name := "isOpen", desc := "(III)Z" } : Jvm.MethodName)) ∈ m_tall := m_in 512 (by decide +kernel) rfl
theorem mw_513 : (Jvm.Cond.code ({ cls := "RelayPassagesModel", name := "isOpen", desc := "(III)Z" } : Jvm.MethodName) prog_6_method_6_code (4 : Nat) (Option.some Jvm.ClassFile.FieldType.boolean)) ∈ m_tall := m_in 513 (by decide +kernel) rfl
theorem mw_514 : (Jvm.Cond.methodLink "RelayPassagesModel" (84 : Nat) ({ cls := "RelayPassagesModel", name := "set", desc := "(IIIZ)V" } : Jvm.MethodName)) ∈ m_tall := m_in 514 (by decide +kernel) rfl
theorem mw_516 : (Jvm.Cond.instanceMethod ({ cls := "RelayPassagesModel", name := "set", desc := "(IIIZ)V" } : Jvm.MethodName)) ∈ m_tall := m_in 516 (by decide +kernel) rfl
theorem mw_517 : (Jvm.Cond.code ({ cls := "RelayPassagesModel", name := "set", desc := "(IIIZ)V" } : Jvm.MethodName) prog_6_method_7_code (5 : Nat) (Option.none : Option Jvm.ClassFile.FieldType)) ∈ m_tall := m_in 517 (by decide +kernel) rfl
theorem mw_518 : (Jvm.Cond.methodLink "RelayPassagesLaw" (61 : Nat) ({ cls := "RelayPassagesModel", name := "now", desc := "()I" } : Jvm.MethodName)) ∈ m_tall := m_in 518 (by decide +kernel) rfl
theorem mw_519 : (Jvm.Cond.instanceMethod ({ cls := "RelayPassagesModel", name := "now", desc := "()I" } : Jvm.MethodName)) ∈ m_tall := m_in 519 (by decide +kernel) rfl
theorem mw_520 : (Jvm.Cond.selects "RelayPassagesModel" ({ cls := "RelayPassagesModel", name := "now", desc := "()I" } : Jvm.MethodName) ({ cls := "RelayPassagesModel", name := "now", desc := "()I" } : Jvm.MethodName)) ∈ m_tall := m_in 520 (by decide +kernel) rfl
theorem mw_521 : (Jvm.Cond.code ({ cls := "RelayPassagesModel", name := "now", desc := "()I" } : Jvm.MethodName) prog_6_method_16_code (1 : Nat) (Option.some Jvm.ClassFile.FieldType.int)) ∈ m_tall := m_in 521 (by decide +kernel) rfl
theorem mw_522 : (Jvm.Cond.methodLink "RelayPassagesLaw" (65 : Nat) ({ cls := "RelayPassagesModel", name := "book", desc := "(III)I" } : Jvm.MethodName)) ∈ m_tall := m_in 522 (by decide +kernel) rfl
theorem mw_523 : (Jvm.Cond.instanceMethod ({ cls := "RelayPassagesModel", name := "book", desc := "(III)I" } : Jvm.MethodName)) ∈ m_tall := m_in 523 (by decide +kernel) rfl
theorem mw_524 : (Jvm.Cond.selects "RelayPassagesModel" ({ cls := "RelayPassagesModel", name := "book", desc := "(III)I" } : Jvm.MethodName) ({ cls := "RelayPassagesModel", name := "book", desc := "(III)I" } : Jvm.MethodName)) ∈ m_tall := m_in 524 (by decide +kernel) rfl
theorem mw_525 : (Jvm.Cond.code ({ cls := "RelayPassagesModel", name := "book", desc := "(III)I" } : Jvm.MethodName) prog_6_method_18_code (5 : Nat) (Option.some Jvm.ClassFile.FieldType.int)) ∈ m_tall := m_in 525 (by decide +kernel) rfl
theorem mw_526 : (Jvm.Cond.methodLink "RelayPassagesModel" (88 : Nat) ({ cls := "RelayPassagesModel", name := "lacks", desc := "(III)I" } : Jvm.MethodName)) ∈ m_tall := m_in 526 (by decide +kernel) rfl
theorem mw_528 : (Jvm.Cond.instanceMethod ({ cls := "RelayPassagesModel", name := "lacks", desc := "(III)I" } : Jvm.MethodName)) ∈ m_tall := m_in 528 (by decide +kernel) rfl
theorem mw_529 : (Jvm.Cond.code ({ cls := "RelayPassagesModel", name := "lacks", desc := "(III)I" } : Jvm.MethodName) prog_6_method_17_code (4 : Nat) (Option.some Jvm.ClassFile.FieldType.int)) ∈ m_tall := m_in 529 (by decide +kernel) rfl
theorem mw_530 : (Jvm.Cond.methodLink "RelayPassagesModel" (91 : Nat) ({ cls := "RelayPassagesModel", name := "best", desc := "(III)I" } : Jvm.MethodName)) ∈ m_tall := m_in 530 (by decide +kernel) rfl
theorem mw_532 : (Jvm.Cond.instanceMethod ({ cls := "RelayPassagesModel", name := "best", desc := "(III)I" } : Jvm.MethodName)) ∈ m_tall := m_in 532 (by decide +kernel) rfl
theorem mw_533 : (Jvm.Cond.code ({ cls := "RelayPassagesModel", name := "best", desc := "(III)I" } : Jvm.MethodName) prog_6_method_12_code (5 : Nat) (Option.some Jvm.ClassFile.FieldType.int)) ∈ m_tall := m_in 533 (by decide +kernel) rfl
theorem mw_534 : (Jvm.Cond.methodLink "RelayPassagesModel" (70 : Nat) ({ cls := "RelayPassagesModel", name := "lookBack", desc := "(II)V" } : Jvm.MethodName)) ∈ m_tall := m_in 534 (by decide +kernel) rfl
theorem mw_536 : (Jvm.Cond.instanceMethod ({ cls := "RelayPassagesModel", name := "lookBack", desc := "(II)V" } : Jvm.MethodName)) ∈ m_tall := m_in 536 (by decide +kernel) rfl
theorem mw_537 : (Jvm.Cond.code ({ cls := "RelayPassagesModel", name := "lookBack", desc := "(II)V" } : Jvm.MethodName) prog_6_method_11_code (8 : Nat) (Option.none : Option Jvm.ClassFile.FieldType)) ∈ m_tall := m_in 537 (by decide +kernel) rfl
theorem mw_538 : (Jvm.Cond.methodLink "RelayPassagesModel" (67 : Nat) ({ cls := "RelayPassagesModel", name := "isFree", desc := "(III)Z" } : Jvm.MethodName)) ∈ m_tall := m_in 538 (by decide +kernel) rfl
theorem mw_540 : (Jvm.Cond.instanceMethod ({ cls := "RelayPassagesModel", name := "isFree", desc := "(III)Z" } : Jvm.MethodName)) ∈ m_tall := m_in 540 (by decide +kernel) rfl
theorem mw_541 : (Jvm.Cond.code ({ cls := "RelayPassagesModel", name := "isFree", desc := "(III)Z" } : Jvm.MethodName) prog_6_method_10_code (4 : Nat) (Option.some Jvm.ClassFile.FieldType.boolean)) ∈ m_tall := m_in 541 (by decide +kernel) rfl
theorem mw_542 : (Jvm.Cond.methodLink "RelayPassagesModel" (59 : Nat) ({ cls := "RelayPassagesModel", name := "used", desc := "(III)I" } : Jvm.MethodName)) ∈ m_tall := m_in 542 (by decide +kernel) rfl
theorem mw_544 : (Jvm.Cond.instanceMethod ({ cls := "RelayPassagesModel", name := "used", desc := "(III)I" } : Jvm.MethodName)) ∈ m_tall := m_in 544 (by decide +kernel) rfl
theorem mw_545 : (Jvm.Cond.code ({ cls := "RelayPassagesModel", name := "used", desc := "(III)I" } : Jvm.MethodName) prog_6_method_9_code (6 : Nat) (Option.some Jvm.ClassFile.FieldType.int)) ∈ m_tall := m_in 545 (by decide +kernel) rfl
theorem mw_546 : (Jvm.Cond.methodLink "RelayPassagesModel" (55 : Nat) ({ cls := "RelayPassagesModel", name := "goes", desc := "(IIII)Z" } : Jvm.MethodName)) ∈ m_tall := m_in 546 (by decide +kernel) rfl
theorem mw_548 : (Jvm.Cond.instanceMethod ({ cls := "RelayPassagesModel", name := "goes", desc := "(IIII)Z" } : Jvm.MethodName)) ∈ m_tall := m_in 548 (by decide +kernel) rfl
theorem mw_549 : (Jvm.Cond.code ({ cls := "RelayPassagesModel", name := "goes", desc := "(IIII)Z" } : Jvm.MethodName) prog_6_method_8_code (5 : Nat) (Option.some Jvm.ClassFile.FieldType.boolean)) ∈ m_tall := m_in 549 (by decide +kernel) rfl
theorem mw_550 : (Jvm.Cond.methodLink "RelayPassagesModel" (94 : Nat) ({ cls := "RelayPassagesModel", name := "lay", desc := "(III)V" } : Jvm.MethodName)) ∈ m_tall := m_in 550 (by decide +kernel) rfl
theorem mw_552 : (Jvm.Cond.instanceMethod ({ cls := "RelayPassagesModel", name := "lay", desc := "(III)V" } : Jvm.MethodName)) ∈ m_tall := m_in 552 (by decide +kernel) rfl
theorem mw_553 : (Jvm.Cond.code ({ cls := "RelayPassagesModel", name := "lay", desc := "(III)V" } : Jvm.MethodName) prog_6_method_13_code (9 : Nat) (Option.none : Option Jvm.ClassFile.FieldType)) ∈ m_tall := m_in 553 (by decide +kernel) rfl
theorem mw_554 : (Jvm.Cond.methodLink "RelayPassagesLaw" (68 : Nat) ({ cls := "RelayPassagesModel", name := "whatIf", desc := "(III)I" } : Jvm.MethodName)) ∈ m_tall := m_in 554 (by decide +kernel) rfl
theorem mw_555 : (Jvm.Cond.instanceMethod ({ cls := "RelayPassagesModel", name := "whatIf", desc := "(III)I" } : Jvm.MethodName)) ∈ m_tall := m_in 555 (by decide +kernel) rfl
theorem mw_556 : (Jvm.Cond.selects "RelayPassagesModel" ({ cls := "RelayPassagesModel", name := "whatIf", desc := "(III)I" } : Jvm.MethodName) ({ cls := "RelayPassagesModel", name := "whatIf", desc := "(III)I" } : Jvm.MethodName)) ∈ m_tall := m_in 556 (by decide +kernel) rfl
theorem mw_557 : (Jvm.Cond.code ({ cls := "RelayPassagesModel", name := "whatIf", desc := "(III)I" } : Jvm.MethodName) prog_6_method_19_code (4 : Nat) (Option.some Jvm.ClassFile.FieldType.int)) ∈ m_tall := m_in 557 (by decide +kernel) rfl
theorem mw_558 : (Jvm.Cond.methodLink "RelayPassagesLaw" (72 : Nat) ({ cls := "RelayPassagesModel", name := "cancel", desc := "(I)I" } : Jvm.MethodName)) ∈ m_tall := m_in 558 (by decide +kernel) rfl
theorem mw_559 : (Jvm.Cond.instanceMethod ({ cls := "RelayPassagesModel", name := "cancel", desc := "(I)I" } : Jvm.MethodName)) ∈ m_tall := m_in 559 (by decide +kernel) rfl
theorem mw_560 : (Jvm.Cond.selects "RelayPassagesModel" ({ cls := "RelayPassagesModel", name := "cancel", desc := "(I)I" } : Jvm.MethodName) ({ cls := "RelayPassagesModel", name := "cancel", desc := "(I)I" } : Jvm.MethodName)) ∈ m_tall := m_in 560 (by decide +kernel) rfl
theorem mw_561 : (Jvm.Cond.code ({ cls := "RelayPassagesModel", name := "cancel", desc := "(I)I" } : Jvm.MethodName) prog_6_method_23_code (3 : Nat) (Option.some Jvm.ClassFile.FieldType.int)) ∈ m_tall := m_in 561 (by decide +kernel) rfl
theorem mw_562 : (Jvm.Cond.methodLink "RelayPassagesModel" (98 : Nat) ({ cls := "RelayPassagesModel", name := "noParcel", desc := "(I)Z" } : Jvm.MethodName)) ∈ m_tall := m_in 562 (by decide +kernel) rfl
theorem mw_564 : (Jvm.Cond.instanceMethod ({ cls := "RelayPassagesModel", name := "noParcel", desc := "(I)Z" } : Jvm.MethodName)) ∈ m_tall := m_in 564 (by decide +kernel) rfl
theorem mw_565 : (Jvm.Cond.code ({ cls := "RelayPassagesModel", name := "noParcel", desc := "(I)Z" } : Jvm.MethodName) prog_6_method_20_code (2 : Nat) (Option.some Jvm.ClassFile.FieldType.boolean)) ∈ m_tall := m_in 565 (by decide +kernel) rfl
theorem mw_566 : (Jvm.Cond.methodLink "RelayPassagesModel" (101 : Nat) ({ cls := "RelayPassagesModel", name := "isLive", desc := "(I)Z" } : Jvm.MethodName)) ∈ m_tall := m_in 566 (by decide +kernel) rfl
theorem mw_568 : (Jvm.Cond.instanceMethod ({ cls := "RelayPassagesModel", name := "isLive", desc := "(I)Z" } : Jvm.MethodName)) ∈ m_tall := m_in 568 (by decide +kernel) rfl
theorem mw_569 : (Jvm.Cond.code ({ cls := "RelayPassagesModel", name := "isLive", desc := "(I)Z" } : Jvm.MethodName) prog_6_method_21_code (2 : Nat) (Option.some Jvm.ClassFile.FieldType.boolean)) ∈ m_tall := m_in 569 (by decide +kernel) rfl
theorem mw_570 : (Jvm.Cond.methodLink "RelayPassagesModel" (104 : Nat) ({ cls := "RelayPassagesModel", name := "cutOff", desc := "(I)V" } : Jvm.MethodName)) ∈ m_tall := m_in 570 (by decide +kernel) rfl
theorem mw_572 : (Jvm.Cond.instanceMethod ({ cls := "RelayPassagesModel", name := "cutOff", desc := "(I)V" } : Jvm.MethodName)) ∈ m_tall := m_in 572 (by decide +kernel) rfl
theorem mw_573 : (Jvm.Cond.code ({ cls := "RelayPassagesModel", name := "cutOff", desc := "(I)V" } : Jvm.MethodName) prog_6_method_22_code (2 : Nat) (Option.none : Option Jvm.ClassFile.FieldType)) ∈ m_tall := m_in 573 (by decide +kernel) rfl
theorem mw_574 : (Jvm.Cond.methodLink "RelayPassagesLaw" (75 : Nat) ({ cls := "RelayPassagesModel", name := "cut", desc := "(II)I" } : Jvm.MethodName)) ∈ m_tall := m_in 574 (by decide +kernel) rfl
theorem mw_575 : (Jvm.Cond.instanceMethod ({ cls := "RelayPassagesModel", name := "cut", desc := "(II)I" } : Jvm.MethodName)) ∈ m_tall := m_in 575 (by decide +kernel) rfl
theorem mw_576 : (Jvm.Cond.selects "RelayPassagesModel" ({ cls := "RelayPassagesModel", name := "cut", desc := "(II)I" } : Jvm.MethodName) ({ cls := "RelayPassagesModel", name := "cut", desc := "(II)I" } : Jvm.MethodName)) ∈ m_tall := m_in 576 (by decide +kernel) rfl
theorem mw_577 : (Jvm.Cond.code ({ cls := "RelayPassagesModel", name := "cut", desc := "(II)I" } : Jvm.MethodName) prog_6_method_24_code (8 : Nat) (Option.some Jvm.ClassFile.FieldType.int)) ∈ m_tall := m_in 577 (by decide +kernel) rfl
theorem mw_578 : (Jvm.Cond.methodLink "RelayPassagesLaw" (79 : Nat) ({ cls := "RelayPassagesModel", name := "tick", desc := "()I" } : Jvm.MethodName)) ∈ m_tall := m_in 578 (by decide +kernel) rfl
theorem mw_579 : (Jvm.Cond.instanceMethod ({ cls := "RelayPassagesModel", name := "tick", desc := "()I" } : Jvm.MethodName)) ∈ m_tall := m_in 579 (by decide +kernel) rfl
theorem mw_580 : (Jvm.Cond.selects "RelayPassagesModel" ({ cls := "RelayPassagesModel", name := "tick", desc := "()I" } : Jvm.MethodName) ({ cls := "RelayPassagesModel", name := "tick", desc := "()I" } : Jvm.MethodName)) ∈ m_tall := m_in 580 (by decide +kernel) rfl
theorem mw_581 : (Jvm.Cond.code ({ cls := "RelayPassagesModel", name := "tick", desc := "()I" } : Jvm.MethodName) prog_6_method_25_code (3 : Nat) (Option.some Jvm.ClassFile.FieldType.int)) ∈ m_tall := m_in 581 (by decide +kernel) rfl
theorem mw_582 : (Jvm.Cond.methodLink "RelayPassagesLaw" (83 : Nat) ({ cls := "RelayPassagesModel", name := "state", desc := "(I)I" } : Jvm.MethodName)) ∈ m_tall := m_in 582 (by decide +kernel) rfl
theorem mw_583 : (Jvm.Cond.instanceMethod ({ cls := "RelayPassagesModel", name := "state", desc := "(I)I" } : Jvm.MethodName)) ∈ m_tall := m_in 583 (by decide +kernel) rfl
theorem mw_584 : (Jvm.Cond.selects "RelayPassagesModel" ({ cls := "RelayPassagesModel", name := "state", desc := "(I)I" } : Jvm.MethodName) ({ cls := "RelayPassagesModel", name := "state", desc := "(I)I" } : Jvm.MethodName)) ∈ m_tall := m_in 584 (by decide +kernel) rfl
theorem mw_585 : (Jvm.Cond.code ({ cls := "RelayPassagesModel", name := "state", desc := "(I)I" } : Jvm.MethodName) prog_6_method_26_code (2 : Nat) (Option.some Jvm.ClassFile.FieldType.int)) ∈ m_tall := m_in 585 (by decide +kernel) rfl
theorem mw_586 : (Jvm.Cond.methodLink "RelayPassagesLaw" (87 : Nat) ({ cls := "RelayPassagesModel", name := "where", desc := "(I)I" } : Jvm.MethodName)) ∈ m_tall := m_in 586 (by decide +kernel) rfl
theorem mw_587 : (Jvm.Cond.instanceMethod ({ cls := "RelayPassagesModel", name := "where", desc := "(I)I" } : Jvm.MethodName)) ∈ m_tall := m_in 587 (by decide +kernel) rfl
theorem mw_588 : (Jvm.Cond.selects "RelayPassagesModel" ({ cls := "RelayPassagesModel", name := "where", desc := "(I)I" } : Jvm.MethodName) ({ cls := "RelayPassagesModel", name := "where", desc := "(I)I" } : Jvm.MethodName)) ∈ m_tall := m_in 588 (by decide +kernel) rfl
theorem mw_589 : (Jvm.Cond.code ({ cls := "RelayPassagesModel", name := "where", desc := "(I)I" } : Jvm.MethodName) prog_6_method_27_code (2 : Nat) (Option.some Jvm.ClassFile.FieldType.int)) ∈ m_tall := m_in 589 (by decide +kernel) rfl
theorem mw_590 : (Jvm.Cond.methodLink "RelayPassagesLaw" (91 : Nat) ({ cls := "RelayPassagesModel", name := "arrival", desc := "(I)I" } : Jvm.MethodName)) ∈ m_tall := m_in 590 (by decide +kernel) rfl
theorem mw_591 : (Jvm.Cond.instanceMethod ({ cls := "RelayPassagesModel", name := "arrival", desc := "(I)I" } : Jvm.MethodName)) ∈ m_tall := m_in 591 (by decide +kernel) rfl
theorem mw_592 : (Jvm.Cond.selects "RelayPassagesModel" ({ cls := "RelayPassagesModel", name := "arrival", desc := "(I)I" } : Jvm.MethodName) ({ cls := "RelayPassagesModel", name := "arrival", desc := "(I)I" } : Jvm.MethodName)) ∈ m_tall := m_in 592 (by decide +kernel) rfl
theorem mw_593 : (Jvm.Cond.code ({ cls := "RelayPassagesModel", name := "arrival", desc := "(I)I" } : Jvm.MethodName) prog_6_method_28_code (2 : Nat) (Option.some Jvm.ClassFile.FieldType.int)) ∈ m_tall := m_in 593 (by decide +kernel) rfl
theorem mw_594 : (Jvm.Cond.methodLink "RelayPassagesLaw" (95 : Nat) ({ cls := "RelayPassagesModel", name := "step", desc := "(II)I" } : Jvm.MethodName)) ∈ m_tall := m_in 594 (by decide +kernel) rfl
theorem mw_595 : (Jvm.Cond.instanceMethod ({ cls := "RelayPassagesModel", name := "step", desc := "(II)I" } : Jvm.MethodName)) ∈ m_tall := m_in 595 (by decide +kernel) rfl
theorem mw_596 : (Jvm.Cond.selects "RelayPassagesModel" ({ cls := "RelayPassagesModel", name := "step", desc := "(II)I" } : Jvm.MethodName) ({ cls := "RelayPassagesModel", name := "step", desc := "(II)I" } : Jvm.MethodName)) ∈ m_tall := m_in 596 (by decide +kernel) rfl
theorem mw_597 : (Jvm.Cond.code ({ cls := "RelayPassagesModel", name := "step", desc := "(II)I" } : Jvm.MethodName) prog_6_method_29_code (3 : Nat) (Option.some Jvm.ClassFile.FieldType.int)) ∈ m_tall := m_in 597 (by decide +kernel) rfl
theorem mw_598 : (Jvm.Cond.methodLink "RelayPassagesLaw" (99 : Nat) ({ cls := "RelayPassagesModel", name := "linkUsed", desc := "(III)I" } : Jvm.MethodName)) ∈ m_tall := m_in 598 (by decide +kernel) rfl
theorem mw_599 : (Jvm.Cond.instanceMethod ({ cls := "RelayPassagesModel", name := "linkUsed", desc := "(III)I" } : Jvm.MethodName)) ∈ m_tall := m_in 599 (by decide +kernel) rfl
theorem mw_600 : (Jvm.Cond.selects "RelayPassagesModel" ({ cls := "RelayPassagesModel", name := "linkUsed", desc := "(III)I" } : Jvm.MethodName) ({ cls := "RelayPassagesModel", name := "linkUsed", desc := "(III)I" } : Jvm.MethodName)) ∈ m_tall := m_in 600 (by decide +kernel) rfl
theorem mw_601 : (Jvm.Cond.code ({ cls := "RelayPassagesModel", name := "linkUsed", desc := "(III)I" } : Jvm.MethodName) prog_6_method_30_code (4 : Nat) (Option.some Jvm.ClassFile.FieldType.int)) ∈ m_tall := m_in 601 (by decide +kernel) rfl
theorem mw_602 : (Jvm.Cond.methodLink "RelayPassagesModel" (108 : Nat) ({ cls := "RelayPassagesModel", name := "noTick", desc := "(I)Z" } : Jvm.MethodName)) ∈ m_tall := m_in 602 (by decide +kernel) rfl
theorem mw_603 : (Jvm.Cond.static ({ cls := "RelayPassagesModel", name := "noTick", desc := "(I)Z" } : Jvm.MethodName)) ∈ m_tall := m_in 603 (by decide +kernel) rfl
theorem mw_604 : (Jvm.Cond.code ({ cls := "RelayPassagesModel", name := "noTick", desc := "(I)Z" } : Jvm.MethodName) prog_6_method_5_code (1 : Nat) (Option.some Jvm.ClassFile.FieldType.boolean)) ∈ m_tall := m_in 604 (by decide +kernel) rfl
theorem mw_605 : (Jvm.Cond.methodLink "RelayPassagesLaw" (103 : Nat) ({ cls := "RelayPassagesModel", name := "stored", desc := "(II)I" } : Jvm.MethodName)) ∈ m_tall := m_in 605 (by decide +kernel) rfl
theorem mw_606 : (Jvm.Cond.instanceMethod ({ cls := "RelayPassagesModel", name := "stored", desc := "(II)I" } : Jvm.MethodName)) ∈ m_tall := m_in 606 (by decide +kernel) rfl
theorem mw_607 : (Jvm.Cond.selects "RelayPassagesModel" ({ cls := "RelayPassagesModel", name := "stored", desc := "(II)I" } : Jvm.MethodName) ({ cls := "RelayPassagesModel", name := "stored", desc := "(II)I" } : Jvm.MethodName)) ∈ m_tall := m_in 607 (by decide +kernel) rfl
theorem mw_608 : (Jvm.Cond.code ({ cls := "RelayPassagesModel", name := "stored", desc := "(II)I" } : Jvm.MethodName) prog_6_method_31_code (3 : Nat) (Option.some Jvm.ClassFile.FieldType.int)) ∈ m_tall := m_in 608 (by decide +kernel) rfl
theorem mw_609 : (Jvm.Cond.methodLink "RelayPassagesLaw" (108 : Nat) ({ cls := "RelayPassagesModel", name := "open", desc := "(III)Z" } : Jvm.MethodName)) ∈ m_tall := m_in 609 (by decide +kernel) rfl
theorem mw_610 : (Jvm.Cond.instanceMethod ({ cls := "RelayPassagesModel", name := "open", desc := "(III)Z" } : Jvm.MethodName)) ∈ m_tall := m_in 610 (by decide +kernel) rfl
theorem mw_611 : (Jvm.Cond.selects "RelayPassagesModel" ({ cls := "RelayPassagesModel", name := "open", desc := "(III)Z" } : Jvm.MethodName) ({ cls := "RelayPassagesModel", name := "open", desc := "(III)Z" } : Jvm.MethodName)) ∈ m_tall := m_in 611 (by decide +kernel) rfl
theorem mw_612 : (Jvm.Cond.code ({ cls := "RelayPassagesModel", name := "open", desc := "(III)Z" } : Jvm.MethodName) prog_6_method_32_code (4 : Nat) (Option.some Jvm.ClassFile.FieldType.boolean)) ∈ m_tall := m_in 612 (by decide +kernel) rfl
theorem mw_613 : (Jvm.Cond.methodLink "RelayPassagesLaw" (112 : Nat) ({ cls := "RelayPassagesModel", name := "free", desc := "(II)I" } : Jvm.MethodName)) ∈ m_tall := m_in 613 (by decide +kernel) rfl
theorem mw_614 : (Jvm.Cond.instanceMethod ({ cls := "RelayPassagesModel", name := "free", desc := "(II)I" } : Jvm.MethodName)) ∈ m_tall := m_in 614 (by decide +kernel) rfl
theorem mw_615 : (Jvm.Cond.selects "RelayPassagesModel" ({ cls := "RelayPassagesModel", name := "free", desc := "(II)I" } : Jvm.MethodName) ({ cls := "RelayPassagesModel", name := "free", desc := "(II)I" } : Jvm.MethodName)) ∈ m_tall := m_in 615 (by decide +kernel) rfl
theorem mw_616 : (Jvm.Cond.code ({ cls := "RelayPassagesModel", name := "free", desc := "(II)I" } : Jvm.MethodName) prog_6_method_33_code (3 : Nat) (Option.some Jvm.ClassFile.FieldType.int)) ∈ m_tall := m_in 616 (by decide +kernel) rfl
theorem mw_617 : (Jvm.Cond.arrayClass Jvm.ClassFile.FieldType.long) ∈ m_tall := m_in 617 (by decide +kernel) rfl
theorem mwp_0 : Cond.selects "RelayPassages" ⟨"RelayPassages", "parcelOf", "(I)LRelayPassages$Parcel;"⟩ ⟨"RelayPassages", "parcelOf", "(I)LRelayPassages$Parcel;"⟩ ∈ m_tall := m_inp 0 (by decide +kernel) rfl
theorem mwp_2 : Cond.selects "RelayPassages" ⟨"RelayPassages", "checkPair", "(II)V"⟩ ⟨"RelayPassages", "checkPair", "(II)V"⟩ ∈ m_tall := m_inp 2 (by decide +kernel) rfl
theorem mwp_3 : Cond.selects "RelayPassages" ⟨"RelayPassages", "checkBooking", "(III)V"⟩ ⟨"RelayPassages", "checkBooking", "(III)V"⟩ ∈ m_tall := m_inp 3 (by decide +kernel) rfl
theorem mwp_4 : Cond.selects "RelayPassages$WayFinder" ⟨"RelayPassages$WayFinder", "markLeading", "(LRelayPassages$Network;III)V"⟩ ⟨"RelayPassages$WayFinder", "markLeading", "(LRelayPassages$Network;III)V"⟩ ∈ m_tall := m_inp 4 (by decide +kernel) rfl
theorem mwp_5 : Cond.selects "RelayPassages$WayFinder" ⟨"RelayPassages$WayFinder", "walk", "(LRelayPassages$Network;III)V"⟩ ⟨"RelayPassages$WayFinder", "walk", "(LRelayPassages$Network;III)V"⟩ ∈ m_tall := m_inp 5 (by decide +kernel) rfl
theorem mwp_6 : Cond.selects "RelayPassages" ⟨"RelayPassages", "giveJourney", "(LRelayPassages$Parcel;II)V"⟩ ⟨"RelayPassages", "giveJourney", "(LRelayPassages$Parcel;II)V"⟩ ∈ m_tall := m_inp 6 (by decide +kernel) rfl
theorem mwp_7 : Cond.selects "RelayPassages" ⟨"RelayPassages", "cutOff", "(LRelayPassages$Parcel;)I"⟩ ⟨"RelayPassages", "cutOff", "(LRelayPassages$Parcel;)I"⟩ ∈ m_tall := m_inp 7 (by decide +kernel) rfl
theorem mwp_8 : Cond.selects "RelayPassages" ⟨"RelayPassages", "cutOffTouched", "(II)J"⟩ ⟨"RelayPassages", "cutOffTouched", "(II)J"⟩ ∈ m_tall := m_inp 8 (by decide +kernel) rfl
theorem mwp_9 : Cond.selects "RelayPassages" ⟨"RelayPassages", "bookAnew", "(LRelayPassages$Parcel;)Z"⟩ ⟨"RelayPassages", "bookAnew", "(LRelayPassages$Parcel;)Z"⟩ ∈ m_tall := m_inp 9 (by decide +kernel) rfl
theorem mwp_10 : Cond.selects "RelayPassagesModel" ⟨"RelayPassagesModel", "noPair", "(II)Z"⟩ ⟨"RelayPassagesModel", "noPair", "(II)Z"⟩ ∈ m_tall := m_inp 10 (by decide +kernel) rfl
theorem mwp_11 : Cond.selects "RelayPassagesModel" ⟨"RelayPassagesModel", "noNode", "(I)Z"⟩ ⟨"RelayPassagesModel", "noNode", "(I)Z"⟩ ∈ m_tall := m_inp 11 (by decide +kernel) rfl
theorem mwp_12 : Cond.selects "RelayPassagesModel" ⟨"RelayPassagesModel", "isOpen", "(III)Z"⟩ ⟨"RelayPassagesModel", "isOpen", "(III)Z"⟩ ∈ m_tall := m_inp 12 (by decide +kernel) rfl
theorem mwp_13 : Cond.selects "RelayPassagesModel" ⟨"RelayPassagesModel", "set", "(IIIZ)V"⟩ ⟨"RelayPassagesModel", "set", "(IIIZ)V"⟩ ∈ m_tall := m_inp 13 (by decide +kernel) rfl
theorem mwp_14 : Cond.selects "RelayPassagesModel" ⟨"RelayPassagesModel", "lacks", "(III)I"⟩ ⟨"RelayPassagesModel", "lacks", "(III)I"⟩ ∈ m_tall := m_inp 14 (by decide +kernel) rfl
theorem mwp_15 : Cond.selects "RelayPassagesModel" ⟨"RelayPassagesModel", "best", "(III)I"⟩ ⟨"RelayPassagesModel", "best", "(III)I"⟩ ∈ m_tall := m_inp 15 (by decide +kernel) rfl
theorem mwp_16 : Cond.selects "RelayPassagesModel" ⟨"RelayPassagesModel", "lookBack", "(II)V"⟩ ⟨"RelayPassagesModel", "lookBack", "(II)V"⟩ ∈ m_tall := m_inp 16 (by decide +kernel) rfl
theorem mwp_17 : Cond.selects "RelayPassagesModel" ⟨"RelayPassagesModel", "isFree", "(III)Z"⟩ ⟨"RelayPassagesModel", "isFree", "(III)Z"⟩ ∈ m_tall := m_inp 17 (by decide +kernel) rfl
theorem mwp_18 : Cond.selects "RelayPassagesModel" ⟨"RelayPassagesModel", "used", "(III)I"⟩ ⟨"RelayPassagesModel", "used", "(III)I"⟩ ∈ m_tall := m_inp 18 (by decide +kernel) rfl
theorem mwp_19 : Cond.selects "RelayPassagesModel" ⟨"RelayPassagesModel", "goes", "(IIII)Z"⟩ ⟨"RelayPassagesModel", "goes", "(IIII)Z"⟩ ∈ m_tall := m_inp 19 (by decide +kernel) rfl
theorem mwp_20 : Cond.selects "RelayPassagesModel" ⟨"RelayPassagesModel", "lay", "(III)V"⟩ ⟨"RelayPassagesModel", "lay", "(III)V"⟩ ∈ m_tall := m_inp 20 (by decide +kernel) rfl
theorem mwp_21 : Cond.selects "RelayPassagesModel" ⟨"RelayPassagesModel", "noParcel", "(I)Z"⟩ ⟨"RelayPassagesModel", "noParcel", "(I)Z"⟩ ∈ m_tall := m_inp 21 (by decide +kernel) rfl
theorem mwp_22 : Cond.selects "RelayPassagesModel" ⟨"RelayPassagesModel", "isLive", "(I)Z"⟩ ⟨"RelayPassagesModel", "isLive", "(I)Z"⟩ ∈ m_tall := m_inp 22 (by decide +kernel) rfl
theorem mwp_23 : Cond.selects "RelayPassagesModel" ⟨"RelayPassagesModel", "cutOff", "(I)V"⟩ ⟨"RelayPassagesModel", "cutOff", "(I)V"⟩ ∈ m_tall := m_inp 23 (by decide +kernel) rfl
theorem mw_oi : Cond.instanceMethod Lib.objectInit ∈ m_tall := mw_19
theorem mw_oc : Cond.code Lib.objectInit ⟨#[0xb1]⟩ 1 none ∈ m_tall := m_in 20 (by decide +kernel) rfl
theorem mw_ms : Cond.static Lib.Math.max.name ∈ m_tall := mw_399
theorem mw_mi : Cond.initialized "java/lang/Math" ∈ m_tall := mw_12
theorem mw_mc : Cond.code Lib.Math.max.name Lib.Math.max.code 2 (some .int) ∈ m_tall := m_in 400 (by decide +kernel) rfl
theorem m_fact_0 : m_fact 0 := ⟨Or.inl ⟨rfl, mw_25⟩, mw_2, (by decide +kernel), ⟨(by decide), (by decide)⟩, (by decide +kernel)⟩
theorem m_fact_1 : m_fact 1 := ⟨Or.inl ⟨rfl, mw_140⟩, mw_2, (by decide +kernel), ⟨(by decide), (by decide)⟩, (by decide +kernel)⟩
theorem m_fact_2 : m_fact 2 := ⟨Or.inl ⟨rfl, mw_127⟩, mw_2, (by decide +kernel), ⟨(by decide), (by decide)⟩, (by decide +kernel)⟩
theorem m_fact_3 : m_fact 3 := ⟨Or.inl ⟨rfl, mw_123⟩, mw_2, (by decide +kernel), ⟨(by decide), (by decide)⟩, (by decide +kernel)⟩
theorem m_fact_4 : m_fact 4 := ⟨Or.inl ⟨rfl, mw_264⟩, mw_2, (by decide +kernel), ⟨(by decide), (by decide)⟩, (by decide +kernel)⟩
theorem m_fact_5 : m_fact 5 := ⟨Or.inl ⟨rfl, mw_157⟩, mw_2, (by decide +kernel), ⟨(by decide), (by decide)⟩, (by decide +kernel)⟩
theorem m_fact_6 : m_fact 6 := ⟨Or.inl ⟨rfl, mw_283⟩, mw_2, (by decide +kernel), ⟨(by decide), (by decide)⟩, (by decide +kernel)⟩
theorem m_fact_7 : m_fact 7 := ⟨Or.inl ⟨rfl, mw_415⟩, mw_2, (by decide +kernel), ⟨(by decide), (by decide)⟩, (by decide +kernel)⟩
theorem m_fact_8 : m_fact 8 := ⟨Or.inl ⟨rfl, mw_137⟩, mw_2, (by decide +kernel), ⟨(by decide), (by decide)⟩, (by decide +kernel)⟩
theorem m_fact_9 : m_fact 9 := ⟨Or.inl ⟨rfl, mw_149⟩, mw_2, (by decide +kernel), ⟨(by decide), (by decide)⟩, (by decide +kernel)⟩
theorem m_fact_10 : m_fact 10 := ⟨Or.inl ⟨rfl, mw_165⟩, mw_2, (by decide +kernel), ⟨(by decide), (by decide)⟩, (by decide +kernel)⟩
theorem m_fact_11 : m_fact 11 := ⟨Or.inl ⟨rfl, mw_311⟩, mw_2, (by decide +kernel), ⟨(by decide), (by decide)⟩, (by decide +kernel)⟩
theorem m_fact_12 : m_fact 12 := ⟨Or.inl ⟨rfl, mw_356⟩, mw_2, (by decide +kernel), ⟨(by decide), (by decide)⟩, (by decide +kernel)⟩
theorem m_fact_13 : m_fact 13 := ⟨Or.inl ⟨rfl, mw_404⟩, mw_2, (by decide +kernel), ⟨(by decide), (by decide)⟩, (by decide +kernel)⟩
theorem m_fact_14 : m_fact 14 := ⟨Or.inl ⟨rfl, mw_326⟩, mw_10, (by decide +kernel), ⟨(by decide), (by decide)⟩, (by decide +kernel)⟩
theorem m_fact_15 : m_fact 15 := ⟨Or.inl ⟨rfl, mw_99⟩, mw_10, (by decide +kernel), ⟨(by decide), (by decide)⟩, (by decide +kernel)⟩
theorem m_fact_16 : m_fact 16 := ⟨Or.inl ⟨rfl, mw_391⟩, mw_10, (by decide +kernel), ⟨(by decide), (by decide)⟩, (by decide +kernel)⟩
theorem m_fact_17 : m_fact 17 := ⟨Or.inl ⟨rfl, mw_107⟩, mw_10, (by decide +kernel), ⟨(by decide), (by decide)⟩, (by decide +kernel)⟩
theorem m_fact_18 : m_fact 18 := ⟨Or.inl ⟨rfl, mw_423⟩, mw_10, (by decide +kernel), ⟨(by decide), (by decide)⟩, (by decide +kernel)⟩
theorem m_fact_19 : m_fact 19 := ⟨Or.inl ⟨rfl, mw_56⟩, mw_3, (by decide +kernel), ⟨(by decide), (by decide)⟩, (by decide +kernel)⟩
theorem m_fact_20 : m_fact 20 := ⟨Or.inl ⟨rfl, mw_300⟩, mw_3, (by decide +kernel), ⟨(by decide), (by decide)⟩, (by decide +kernel)⟩
theorem m_fact_21 : m_fact 21 := ⟨Or.inl ⟨rfl, mw_303⟩, mw_3, (by decide +kernel), ⟨(by decide), (by decide)⟩, (by decide +kernel)⟩
theorem m_fact_22 : m_fact 22 := ⟨Or.inl ⟨rfl, mw_306⟩, mw_3, (by decide +kernel), ⟨(by decide), (by decide)⟩, (by decide +kernel)⟩
theorem m_fact_23 : m_fact 23 := ⟨Or.inl ⟨rfl, mw_315⟩, mw_3, (by decide +kernel), ⟨(by decide), (by decide)⟩, (by decide +kernel)⟩
theorem m_fact_24 : m_fact 24 := ⟨Or.inl ⟨rfl, mw_319⟩, mw_3, (by decide +kernel), ⟨(by decide), (by decide)⟩, (by decide +kernel)⟩
theorem m_fact_25 : m_fact 25 := ⟨Or.inl ⟨rfl, mw_322⟩, mw_3, (by decide +kernel), ⟨(by decide), (by decide)⟩, (by decide +kernel)⟩
theorem m_fact_26 : m_fact 26 := ⟨Or.inl ⟨rfl, mw_17⟩, mw_1, (by decide +kernel), ⟨(by decide), (by decide)⟩, (by decide +kernel)⟩
theorem m_fact_27 : m_fact 27 := ⟨Or.inl ⟨rfl, mw_174⟩, mw_1, (by decide +kernel), ⟨(by decide), (by decide)⟩, (by decide +kernel)⟩
theorem m_fact_28 : m_fact 28 := ⟨Or.inl ⟨rfl, mw_271⟩, mw_1, (by decide +kernel), ⟨(by decide), (by decide)⟩, (by decide +kernel)⟩
theorem m_fact_29 : m_fact 29 := ⟨Or.inl ⟨rfl, mw_87⟩, mw_1, (by decide +kernel), ⟨(by decide), (by decide)⟩, (by decide +kernel)⟩
theorem m_fact_30 : m_fact 30 := ⟨Or.inl ⟨rfl, mw_290⟩, mw_1, (by decide +kernel), ⟨(by decide), (by decide)⟩, (by decide +kernel)⟩
theorem m_fact_31 : m_fact 31 := ⟨Or.inl ⟨rfl, mw_363⟩, mw_1, (by decide +kernel), ⟨(by decide), (by decide)⟩, (by decide +kernel)⟩
theorem m_fact_32 : m_fact 32 := ⟨Or.inl ⟨rfl, mw_371⟩, mw_1, (by decide +kernel), ⟨(by decide), (by decide)⟩, (by decide +kernel)⟩
theorem m_fact_33 : m_fact 33 := ⟨Or.inl ⟨rfl, mw_411⟩, mw_1, (by decide +kernel), ⟨(by decide), (by decide)⟩, (by decide +kernel)⟩
theorem m_fact_34 : m_fact 34 := ⟨Or.inl ⟨rfl, mw_435⟩, mw_1, (by decide +kernel), ⟨(by decide), (by decide)⟩, (by decide +kernel)⟩
theorem m_fact_35 : m_fact 35 := ⟨Or.inl ⟨rfl, mw_91⟩, mw_1, (by decide +kernel), ⟨(by decide), (by decide)⟩, (by decide +kernel)⟩
theorem m_fact_36 : m_fact 36 := ⟨Or.inl ⟨rfl, mw_103⟩, mw_1, (by decide +kernel), ⟨(by decide), (by decide)⟩, (by decide +kernel)⟩
theorem m_fact_37 : m_fact 37 := ⟨Or.inl ⟨rfl, mw_111⟩, mw_1, (by decide +kernel), ⟨(by decide), (by decide)⟩, (by decide +kernel)⟩
theorem m_fact_38 : m_fact 38 := ⟨Or.inl ⟨rfl, mw_115⟩, mw_1, (by decide +kernel), ⟨(by decide), (by decide)⟩, (by decide +kernel)⟩
theorem m_fact_39 : m_fact 39 := ⟨Or.inl ⟨rfl, mw_119⟩, mw_1, (by decide +kernel), ⟨(by decide), (by decide)⟩, (by decide +kernel)⟩
theorem m_fact_40 : m_fact 40 := ⟨Or.inl ⟨rfl, mw_144⟩, mw_1, (by decide +kernel), ⟨(by decide), (by decide)⟩, (by decide +kernel)⟩
theorem m_fact_41 : m_fact 41 := ⟨Or.inl ⟨rfl, mw_153⟩, mw_1, (by decide +kernel), ⟨(by decide), (by decide)⟩, (by decide +kernel)⟩
theorem m_fact_42 : m_fact 42 := ⟨Or.inl ⟨rfl, mw_161⟩, mw_1, (by decide +kernel), ⟨(by decide), (by decide)⟩, (by decide +kernel)⟩
theorem m_fact_43 : m_fact 43 := ⟨Or.inl ⟨rfl, mw_133⟩, mw_1, (by decide +kernel), ⟨(by decide), (by decide)⟩, (by decide +kernel)⟩
theorem m_fact_44 : m_fact 44 := ⟨Or.inl ⟨rfl, mw_130⟩, mw_1, (by decide +kernel), ⟨(by decide), (by decide)⟩, (by decide +kernel)⟩
theorem m_fact_45 : m_fact 45 := ⟨Or.inl ⟨rfl, mw_95⟩, mw_1, (by decide +kernel), ⟨(by decide), (by decide)⟩, (by decide +kernel)⟩
theorem m_fact_46 : m_fact 46 := ⟨Or.inl ⟨rfl, mw_275⟩, mw_1, (by decide +kernel), ⟨(by decide), (by decide)⟩, (by decide +kernel)⟩
theorem m_fact_47 : m_fact 47 := ⟨Or.inl ⟨rfl, mw_294⟩, mw_1, (by decide +kernel), ⟨(by decide), (by decide)⟩, (by decide +kernel)⟩
theorem m_fact_48 : m_fact 48 := ⟨Or.inl ⟨rfl, mw_352⟩, mw_1, (by decide +kernel), ⟨(by decide), (by decide)⟩, (by decide +kernel)⟩
theorem m_fact_49 : m_fact 49 := ⟨Or.inl ⟨rfl, mw_397⟩, mw_1, (by decide +kernel), ⟨(by decide), (by decide)⟩, (by decide +kernel)⟩
theorem m_fact_50 : m_fact 50 := ⟨Or.inl ⟨rfl, mw_419⟩, mw_1, (by decide +kernel), ⟨(by decide), (by decide)⟩, (by decide +kernel)⟩
theorem m_fact_51 : m_fact 51 := ⟨Or.inl ⟨rfl, mw_428⟩, mw_1, (by decide +kernel), ⟨(by decide), (by decide)⟩, (by decide +kernel)⟩
theorem m_fact_52 : m_fact 52 := ⟨Or.inl ⟨rfl, mw_441⟩, mw_4, (by decide +kernel), ⟨(by decide), (by decide)⟩, (by decide +kernel)⟩
theorem m_fact_53 : m_fact 53 := ⟨Or.inl ⟨rfl, mw_493⟩, mw_4, (by decide +kernel), ⟨(by decide), (by decide)⟩, (by decide +kernel)⟩
theorem m_fact_54 : m_fact 54 := ⟨Or.inl ⟨rfl, mw_509⟩, mw_4, (by decide +kernel), ⟨(by decide), (by decide)⟩, (by decide +kernel)⟩
theorem m_fact_55 : m_fact 55 := ⟨Or.inl ⟨rfl, mw_505⟩, mw_4, (by decide +kernel), ⟨(by decide), (by decide)⟩, (by decide +kernel)⟩
theorem m_fact_56 : m_fact 56 := ⟨Or.inl ⟨rfl, mw_604⟩, mw_4, (by decide +kernel), ⟨(by decide), (by decide)⟩, (by decide +kernel)⟩
theorem m_fact_57 : m_fact 57 := ⟨Or.inl ⟨rfl, mw_513⟩, mw_4, (by decide +kernel), ⟨(by decide), (by decide)⟩, (by decide +kernel)⟩
theorem m_fact_58 : m_fact 58 := ⟨Or.inl ⟨rfl, mw_517⟩, mw_4, (by decide +kernel), ⟨(by decide), (by decide)⟩, (by decide +kernel)⟩
theorem m_fact_59 : m_fact 59 := ⟨Or.inl ⟨rfl, mw_549⟩, mw_4, (by decide +kernel), ⟨(by decide), (by decide)⟩, (by decide +kernel)⟩
theorem m_fact_60 : m_fact 60 := ⟨Or.inl ⟨rfl, mw_545⟩, mw_4, (by decide +kernel), ⟨(by decide), (by decide)⟩, (by decide +kernel)⟩
theorem m_fact_61 : m_fact 61 := ⟨Or.inl ⟨rfl, mw_541⟩, mw_4, (by decide +kernel), ⟨(by decide), (by decide)⟩, (by decide +kernel)⟩
theorem m_fact_62 : m_fact 62 := ⟨Or.inl ⟨rfl, mw_537⟩, mw_4, (by decide +kernel), ⟨(by decide), (by decide)⟩, (by decide +kernel)⟩
theorem m_fact_63 : m_fact 63 := ⟨Or.inl ⟨rfl, mw_533⟩, mw_4, (by decide +kernel), ⟨(by decide), (by decide)⟩, (by decide +kernel)⟩
theorem m_fact_64 : m_fact 64 := ⟨Or.inl ⟨rfl, mw_553⟩, mw_4, (by decide +kernel), ⟨(by decide), (by decide)⟩, (by decide +kernel)⟩
theorem m_fact_65 : m_fact 65 := ⟨Or.inl ⟨rfl, mw_497⟩, mw_4, (by decide +kernel), ⟨(by decide), (by decide)⟩, (by decide +kernel)⟩
theorem m_fact_66 : m_fact 66 := ⟨Or.inl ⟨rfl, mw_501⟩, mw_4, (by decide +kernel), ⟨(by decide), (by decide)⟩, (by decide +kernel)⟩
theorem m_fact_67 : m_fact 67 := ⟨Or.inl ⟨rfl, mw_521⟩, mw_4, (by decide +kernel), ⟨(by decide), (by decide)⟩, (by decide +kernel)⟩
theorem m_fact_68 : m_fact 68 := ⟨Or.inl ⟨rfl, mw_529⟩, mw_4, (by decide +kernel), ⟨(by decide), (by decide)⟩, (by decide +kernel)⟩
theorem m_fact_69 : m_fact 69 := ⟨Or.inl ⟨rfl, mw_525⟩, mw_4, (by decide +kernel), ⟨(by decide), (by decide)⟩, (by decide +kernel)⟩
theorem m_fact_70 : m_fact 70 := ⟨Or.inl ⟨rfl, mw_557⟩, mw_4, (by decide +kernel), ⟨(by decide), (by decide)⟩, (by decide +kernel)⟩
theorem m_fact_71 : m_fact 71 := ⟨Or.inl ⟨rfl, mw_565⟩, mw_4, (by decide +kernel), ⟨(by decide), (by decide)⟩, (by decide +kernel)⟩
theorem m_fact_72 : m_fact 72 := ⟨Or.inl ⟨rfl, mw_569⟩, mw_4, (by decide +kernel), ⟨(by decide), (by decide)⟩, (by decide +kernel)⟩
theorem m_fact_73 : m_fact 73 := ⟨Or.inl ⟨rfl, mw_573⟩, mw_4, (by decide +kernel), ⟨(by decide), (by decide)⟩, (by decide +kernel)⟩
theorem m_fact_74 : m_fact 74 := ⟨Or.inl ⟨rfl, mw_561⟩, mw_4, (by decide +kernel), ⟨(by decide), (by decide)⟩, (by decide +kernel)⟩
theorem m_fact_75 : m_fact 75 := ⟨Or.inl ⟨rfl, mw_577⟩, mw_4, (by decide +kernel), ⟨(by decide), (by decide)⟩, (by decide +kernel)⟩
theorem m_fact_76 : m_fact 76 := ⟨Or.inl ⟨rfl, mw_581⟩, mw_4, (by decide +kernel), ⟨(by decide), (by decide)⟩, (by decide +kernel)⟩
theorem m_fact_77 : m_fact 77 := ⟨Or.inl ⟨rfl, mw_585⟩, mw_4, (by decide +kernel), ⟨(by decide), (by decide)⟩, (by decide +kernel)⟩
theorem m_fact_78 : m_fact 78 := ⟨Or.inl ⟨rfl, mw_589⟩, mw_4, (by decide +kernel), ⟨(by decide), (by decide)⟩, (by decide +kernel)⟩
theorem m_fact_79 : m_fact 79 := ⟨Or.inl ⟨rfl, mw_593⟩, mw_4, (by decide +kernel), ⟨(by decide), (by decide)⟩, (by decide +kernel)⟩
theorem m_fact_80 : m_fact 80 := ⟨Or.inl ⟨rfl, mw_597⟩, mw_4, (by decide +kernel), ⟨(by decide), (by decide)⟩, (by decide +kernel)⟩
theorem m_fact_81 : m_fact 81 := ⟨Or.inl ⟨rfl, mw_601⟩, mw_4, (by decide +kernel), ⟨(by decide), (by decide)⟩, (by decide +kernel)⟩
theorem m_fact_82 : m_fact 82 := ⟨Or.inl ⟨rfl, mw_608⟩, mw_4, (by decide +kernel), ⟨(by decide), (by decide)⟩, (by decide +kernel)⟩
theorem m_fact_83 : m_fact 83 := ⟨Or.inl ⟨rfl, mw_612⟩, mw_4, (by decide +kernel), ⟨(by decide), (by decide)⟩, (by decide +kernel)⟩
theorem m_fact_84 : m_fact 84 := ⟨Or.inl ⟨rfl, mw_616⟩, mw_4, (by decide +kernel), ⟨(by decide), (by decide)⟩, (by decide +kernel)⟩
theorem m_fact_85 : m_fact 85 := ⟨Or.inr mw_168, mw_0, (by decide +kernel), ⟨(by decide), (by decide)⟩, (by decide +kernel)⟩
theorem m_fact_86 : m_fact 86 := ⟨Or.inr mw_267, mw_0, (by decide +kernel), ⟨(by decide), (by decide)⟩, (by decide +kernel)⟩
theorem m_fact_87 : m_fact 87 := ⟨Or.inr mw_286, mw_0, (by decide +kernel), ⟨(by decide), (by decide)⟩, (by decide +kernel)⟩
theorem m_fact_88 : m_fact 88 := ⟨Or.inr mw_359, mw_0, (by decide +kernel), ⟨(by decide), (by decide)⟩, (by decide +kernel)⟩
theorem m_fact_89 : m_fact 89 := ⟨Or.inr mw_366, mw_0, (by decide +kernel), ⟨(by decide), (by decide)⟩, (by decide +kernel)⟩
theorem m_fact_90 : m_fact 90 := ⟨Or.inr mw_407, mw_0, (by decide +kernel), ⟨(by decide), (by decide)⟩, (by decide +kernel)⟩
theorem m_fact_91 : m_fact 91 := ⟨Or.inr mw_431, mw_0, (by decide +kernel), ⟨(by decide), (by decide)⟩, (by decide +kernel)⟩
theorem m_own_0 : m_own "RelayPassages" 40 0 := by unfold m_own; decide +kernel
theorem m_own_1 : m_own "RelayPassages" 53 1 := by unfold m_own; decide +kernel
theorem m_own_2 : m_own "RelayPassages" 105 2 := by unfold m_own; decide +kernel
