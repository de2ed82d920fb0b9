/-! the words of the tables that stay, each by its place -/
def TBG : List Cond := lw_tbl.filter goodWord
theorem tb_in {w : Cond} (h : w ∈ tables_1) (g : goodWord w = true) : w ∈ TBG := List.mem_filter.mpr ⟨by unfold lw_tbl; exact List.mem_append_right _ h, g⟩
theorem tb_pr {y : MethodName} {n : Nat} (h : (y, n) ∈ lw_privs) : Cond.selects y.cls y y ∈ TBG := List.mem_filter.mpr ⟨by unfold lw_tbl; exact List.mem_append_left _ (List.mem_map.mpr ⟨(y, n), h, rfl⟩), rfl⟩
theorem tk1 {w : Cond} (h : w ∈ tables_1_1) : w ∈ tables_1 := by unfold tables_1; exact List.mem_append_left _ h
theorem tk2 {w : Cond} (h : w ∈ tables_1_2) : w ∈ tables_1 := by unfold tables_1; exact List.mem_append_right _ (List.mem_append_left _ h)
theorem tk3 {w : Cond} (h : w ∈ tables_1_3) : w ∈ tables_1 := by unfold tables_1; exact List.mem_append_right _ (List.mem_append_right _ (List.mem_append_left _ h))
theorem tk4 {w : Cond} (h : w ∈ tables_1_4) : w ∈ tables_1 := by unfold tables_1; exact List.mem_append_right _ (List.mem_append_right _ (List.mem_append_right _ (List.mem_append_left _ h)))
theorem tk5 {w : Cond} (h : w ∈ tables_1_5) : w ∈ tables_1 := by unfold tables_1; exact List.mem_append_right _ (List.mem_append_right _ (List.mem_append_right _ (List.mem_append_right _ (List.mem_append_left _ h))))
theorem tk6 {w : Cond} (h : w ∈ tables_1_6) : w ∈ tables_1 := by unfold tables_1; exact List.mem_append_right _ (List.mem_append_right _ (List.mem_append_right _ (List.mem_append_right _ (List.mem_append_right _ (List.mem_append_left _ h)))))
theorem tk7 {w : Cond} (h : w ∈ tables_1_7) : w ∈ tables_1 := by unfold tables_1; exact List.mem_append_right _ (List.mem_append_right _ (List.mem_append_right _ (List.mem_append_right _ (List.mem_append_right _ (List.mem_append_right _ (List.mem_append_left _ h))))))
theorem tk8 {w : Cond} (h : w ∈ tables_1_8) : w ∈ tables_1 := by unfold tables_1; exact List.mem_append_right _ (List.mem_append_right _ (List.mem_append_right _ (List.mem_append_right _ (List.mem_append_right _ (List.mem_append_right _ (List.mem_append_right _ (List.mem_append_left _ h)))))))
theorem tk9 {w : Cond} (h : w ∈ tables_1_9) : w ∈ tables_1 := by unfold tables_1; exact List.mem_append_right _ (List.mem_append_right _ (List.mem_append_right _ (List.mem_append_right _ (List.mem_append_right _ (List.mem_append_right _ (List.mem_append_right _ (List.mem_append_right _ (h))))))))
theorem tp1 {q : MethodName × Nat} (h : q ∈ lw_privs_1) : q ∈ lw_privs := by unfold lw_privs; exact List.mem_append_left _ h
theorem tp2 {q : MethodName × Nat} (h : q ∈ lw_privs_2) : q ∈ lw_privs := by unfold lw_privs; exact List.mem_append_right _ (List.mem_append_left _ h)
theorem tp3 {q : MethodName × Nat} (h : q ∈ lw_privs_3) : q ∈ lw_privs := by unfold lw_privs; exact List.mem_append_right _ (List.mem_append_right _ (List.mem_append_left _ h))
theorem tp4 {q : MethodName × Nat} (h : q ∈ lw_privs_4) : q ∈ lw_privs := by unfold lw_privs; exact List.mem_append_right _ (List.mem_append_right _ (List.mem_append_right _ (List.mem_append_left _ h)))
theorem tp5 {q : MethodName × Nat} (h : q ∈ lw_privs_5) : q ∈ lw_privs := by unfold lw_privs; exact List.mem_append_right _ (List.mem_append_right _ (List.mem_append_right _ (List.mem_append_right _ (List.mem_append_left _ h))))
theorem tp6 {q : MethodName × Nat} (h : q ∈ lw_privs_6) : q ∈ lw_privs := by unfold lw_privs; exact List.mem_append_right _ (List.mem_append_right _ (List.mem_append_right _ (List.mem_append_right _ (List.mem_append_right _ (List.mem_append_left _ h)))))
theorem tp7 {q : MethodName × Nat} (h : q ∈ lw_privs_7) : q ∈ lw_privs := by unfold lw_privs; exact List.mem_append_right _ (List.mem_append_right _ (List.mem_append_right _ (List.mem_append_right _ (List.mem_append_right _ (List.mem_append_right _ (h))))))
theorem tw_0 : (Jvm.Cond.initialized "DustParishLaw") ∈ TBG := tb_in (tk1 (List.mem_of_getElem? (i := 0) rfl)) rfl
theorem tw_1 : (Jvm.Cond.initialized "DustParish") ∈ TBG := tb_in (tk1 (List.mem_of_getElem? (i := 1) rfl)) rfl
theorem tw_2 : (Jvm.Cond.initialized "DustParish$Facts") ∈ TBG := tb_in (tk1 (List.mem_of_getElem? (i := 2) rfl)) rfl
theorem tw_3 : (Jvm.Cond.initialized "DustParish$Rule") ∈ TBG := tb_in (tk1 (List.mem_of_getElem? (i := 3) rfl)) rfl
theorem tw_4 : (Jvm.Cond.initialized "DustParish$Reader") ∈ TBG := tb_in (tk1 (List.mem_of_getElem? (i := 4) rfl)) rfl
theorem tw_5 : (Jvm.Cond.initialized "DustParish$Tokens") ∈ TBG := tb_in (tk1 (List.mem_of_getElem? (i := 5) rfl)) rfl
theorem tw_6 : (Jvm.Cond.initialized "DustParish$RuleReader") ∈ TBG := tb_in (tk1 (List.mem_of_getElem? (i := 6) rfl)) rfl
theorem tw_7 : (Jvm.Cond.initialized "DustParish$Present") ∈ TBG := tb_in (tk1 (List.mem_of_getElem? (i := 7) rfl)) rfl
theorem tw_8 : (Jvm.Cond.initialized "DustParish$State") ∈ TBG := tb_in (tk1 (List.mem_of_getElem? (i := 8) rfl)) rfl
theorem tw_9 : (Jvm.Cond.initialized "DustParish$Acts") ∈ TBG := tb_in (tk1 (List.mem_of_getElem? (i := 9) rfl)) rfl
theorem tw_10 : (Jvm.Cond.initialized "DustParish$Sights") ∈ TBG := tb_in (tk1 (List.mem_of_getElem? (i := 10) rfl)) rfl
theorem tw_11 : (Jvm.Cond.initialized "java/util/Arrays") ∈ TBG := tb_in (tk1 (List.mem_of_getElem? (i := 11) rfl)) rfl
theorem tw_12 : (Jvm.Cond.initialized "DustParishModel") ∈ TBG := tb_in (tk1 (List.mem_of_getElem? (i := 12) rfl)) rfl
theorem tw_13 : (Jvm.Cond.initialized "java/lang/Throwable") ∈ TBG := tb_in (tk1 (List.mem_of_getElem? (i := 13) rfl)) rfl
theorem tw_14 : (Jvm.Cond.initialized "java/lang/Exception") ∈ TBG := tb_in (tk1 (List.mem_of_getElem? (i := 14) rfl)) rfl
theorem tw_15 : (Jvm.Cond.initialized "java/lang/RuntimeException") ∈ TBG := tb_in (tk1 (List.mem_of_getElem? (i := 15) rfl)) rfl
theorem tw_16 : (Jvm.Cond.initialized "java/lang/IllegalArgumentException") ∈ TBG := tb_in (tk1 (List.mem_of_getElem? (i := 16) rfl)) rfl
theorem tw_17 : (Jvm.Cond.initialized "java/lang/Math") ∈ TBG := tb_in (tk1 (List.mem_of_getElem? (i := 17) rfl)) rfl
theorem tw_18 : (Jvm.Cond.initialized "java/lang/String") ∈ TBG := tb_in (tk1 (List.mem_of_getElem? (i := 18) rfl)) rfl
theorem tw_19 : (Jvm.Cond.initialized "java/lang/StringLatin1") ∈ TBG := tb_in (tk1 (List.mem_of_getElem? (i := 19) rfl)) rfl
theorem tw_20 : (Jvm.Cond.initialized "java/lang/StringUTF16") ∈ TBG := tb_in (tk1 (List.mem_of_getElem? (i := 20) rfl)) rfl
theorem tw_21 : (Jvm.Cond.initialized "jdk/internal/util/Preconditions") ∈ TBG := tb_in (tk1 (List.mem_of_getElem? (i := 21) rfl)) rfl
theorem tw_22 : (Jvm.Cond.initialized "java/lang/Character") ∈ TBG := tb_in (tk1 (List.mem_of_getElem? (i := 22) rfl)) rfl
theorem tw_23 : (Jvm.Cond.initialized "java/lang/System") ∈ TBG := tb_in (tk1 (List.mem_of_getElem? (i := 23) rfl)) rfl
theorem tw_24 : (Jvm.Cond.initialized "DustParish$Course") ∈ TBG := tb_in (tk1 (List.mem_of_getElem? (i := 24) rfl)) rfl
theorem tw_25 : (Jvm.Cond.initialized "java/util/NoSuchElementException") ∈ TBG := tb_in (tk1 (List.mem_of_getElem? (i := 25) rfl)) rfl
theorem tw_26 : (Jvm.Cond.classLink "DustParishLaw" (8 : Nat) "DustParish") ∈ TBG := tb_in (tk1 (List.mem_of_getElem? (i := 26) rfl)) rfl
theorem tw_27 : (Jvm.Cond.instantiable "DustParish" (15 : Nat)) ∈ TBG := tb_in (tk1 (List.mem_of_getElem? (i := 27) rfl)) rfl
theorem tw_28 : (Jvm.Cond.methodLink "DustParishLaw" (100 : Nat) yX10_init) ∈ TBG := tb_in (tk1 (List.mem_of_getElem? (i := 28) rfl)) rfl
theorem tw_29 : (Jvm.Cond.instanceMethod yX10_init) ∈ TBG := tb_in (tk1 (List.mem_of_getElem? (i := 29) rfl)) rfl
theorem tw_30 : (Jvm.Cond.code yX10_init cX10_init (1 : Nat) (Option.none : Option Jvm.ClassFile.FieldType)) ∈ TBG := tb_in (tk1 (List.mem_of_getElem? (i := 30) rfl)) rfl
theorem tw_31 : (Jvm.Cond.methodLink "DustParish" (1 : Nat) ({ cls := "java/lang/Object", name := "<init>", desc := "()V" } : Jvm.MethodName)) ∈ TBG := tb_in (tk1 (List.mem_of_getElem? (i := 31) rfl)) rfl
theorem tw_32 : (Jvm.Cond.instanceMethod ({ cls := "java/lang/Object", name := "<init>", desc := "()V" } : Jvm.MethodName)) ∈ TBG := tb_in (tk1 (List.mem_of_getElem? (i := 32) rfl)) rfl
theorem tw_33 : (Jvm.Cond.code ({ cls := "java/lang/Object", name := "<init>", desc := "()V" } : Jvm.MethodName) object_method_1_code (1 : Nat) (Option.none : Option Jvm.ClassFile.FieldType)) ∈ TBG := tb_in (tk1 (List.mem_of_getElem? (i := 33) rfl)) rfl
theorem tw_34 : (Jvm.Cond.classLink "DustParish" (20 : Nat) "DustParish$Facts") ∈ TBG := tb_in (tk1 (List.mem_of_getElem? (i := 34) rfl)) rfl
theorem tw_35 : (Jvm.Cond.instantiable "DustParish$Facts" (20 : Nat)) ∈ TBG := tb_in (tk1 (List.mem_of_getElem? (i := 35) rfl)) rfl
theorem tw_37 : (Jvm.Cond.instanceMethod yX2_init) ∈ TBG := tb_in (tk1 (List.mem_of_getElem? (i := 37) rfl)) rfl
theorem tw_38 : (Jvm.Cond.code yX2_init cX2_init (1 : Nat) (Option.none : Option Jvm.ClassFile.FieldType)) ∈ TBG := tb_in (tk1 (List.mem_of_getElem? (i := 38) rfl)) rfl
theorem tw_39 : (Jvm.Cond.methodLink "DustParish$Facts" (3 : Nat) ({ cls := "java/lang/Object", name := "<init>", desc := "()V" } : Jvm.MethodName)) ∈ TBG := tb_in (tk1 (List.mem_of_getElem? (i := 39) rfl)) rfl
theorem tw_40 : (Jvm.Cond.classLink "DustParish$Facts" (45 : Nat) "DustParish$Rule") ∈ TBG := tb_in (tk1 (List.mem_of_getElem? (i := 40) rfl)) rfl
theorem tw_41 : (Jvm.Cond.instantiable "DustParish$Rule" (4 : Nat)) ∈ TBG := tb_in (tk1 (List.mem_of_getElem? (i := 41) rfl)) rfl
theorem tw_43 : (Jvm.Cond.instanceMethod yX5_init) ∈ TBG := tb_in (tk1 (List.mem_of_getElem? (i := 43) rfl)) rfl
theorem tw_44 : (Jvm.Cond.code yX5_init cX5_init (1 : Nat) (Option.none : Option Jvm.ClassFile.FieldType)) ∈ TBG := tb_in (tk1 (List.mem_of_getElem? (i := 44) rfl)) rfl
theorem tw_45 : (Jvm.Cond.methodLink "DustParish$Rule" (3 : Nat) ({ cls := "java/lang/Object", name := "<init>", desc := "()V" } : Jvm.MethodName)) ∈ TBG := tb_in (tk1 (List.mem_of_getElem? (i := 45) rfl)) rfl
theorem tw_46 : (Jvm.Cond.fieldLink "DustParish$Rule" (11 : Nat) "DustParish$Rule" "values" "[I") ∈ TBG := tb_in (tk1 (List.mem_of_getElem? (i := 46) rfl)) rfl
theorem tw_47 : (Jvm.Cond.fieldLink "DustParish$Course" (97 : Nat) "DustParish$Rule" "values" "[I") ∈ TBG := tb_in (tk1 (List.mem_of_getElem? (i := 47) rfl)) rfl
theorem tw_48 : (Jvm.Cond.fieldLink "DustParish$Rule" (15 : Nat) "DustParish$Rule" "size" "I") ∈ TBG := tb_in (tk1 (List.mem_of_getElem? (i := 48) rfl)) rfl
theorem tw_49 : (Jvm.Cond.fieldLink "DustParish$Rule" (19 : Nat) "DustParish$Rule" "code" "[I") ∈ TBG := tb_in (tk1 (List.mem_of_getElem? (i := 49) rfl)) rfl
theorem tw_50 : (Jvm.Cond.fieldLink "DustParish$Rule" (22 : Nat) "DustParish$Rule" "stack" "[I") ∈ TBG := tb_in (tk1 (List.mem_of_getElem? (i := 50) rfl)) rfl
theorem tw_51 : (Jvm.Cond.laysFinal "DustParish$Rule" "DustParish$Rule" "values" "[I") ∈ TBG := tb_in (tk1 (List.mem_of_getElem? (i := 51) rfl)) rfl
theorem tw_52 : (Jvm.Cond.soleField "DustParish$Rule" "values") ∈ TBG := tb_in (tk1 (List.mem_of_getElem? (i := 52) rfl)) rfl
theorem tw_53 : (Jvm.Cond.lays "DustParish$Rule" "DustParish$Rule" "size" "I") ∈ TBG := tb_in (tk1 (List.mem_of_getElem? (i := 53) rfl)) rfl
theorem tw_54 : (Jvm.Cond.soleField "DustParish$Rule" "size") ∈ TBG := tb_in (tk1 (List.mem_of_getElem? (i := 54) rfl)) rfl
theorem tw_55 : (Jvm.Cond.laysFinal "DustParish$Rule" "DustParish$Rule" "code" "[I") ∈ TBG := tb_in (tk1 (List.mem_of_getElem? (i := 55) rfl)) rfl
theorem tw_56 : (Jvm.Cond.soleField "DustParish$Rule" "code") ∈ TBG := tb_in (tk1 (List.mem_of_getElem? (i := 56) rfl)) rfl
theorem tw_57 : (Jvm.Cond.laysFinal "DustParish$Rule" "DustParish$Rule" "stack" "[I") ∈ TBG := tb_in (tk1 (List.mem_of_getElem? (i := 57) rfl)) rfl
theorem tw_58 : (Jvm.Cond.soleField "DustParish$Rule" "stack") ∈ TBG := tb_in (tk1 (List.mem_of_getElem? (i := 58) rfl)) rfl
theorem tw_59 : (Jvm.Cond.superclass "DustParish$Rule" "java/lang/Object") ∈ TBG := tb_in (tk1 (List.mem_of_getElem? (i := 59) rfl)) rfl
theorem tw_60 : (Jvm.Cond.arrayClass Jvm.ClassFile.FieldType.byte) ∈ TBG := tb_in (tk1 (List.mem_of_getElem? (i := 60) rfl)) rfl
theorem tw_61 : (Jvm.Cond.arrayClass Jvm.ClassFile.FieldType.int) ∈ TBG := tb_in (tk1 (List.mem_of_getElem? (i := 61) rfl)) rfl
theorem tw_62 : (Jvm.Cond.fieldLink "DustParish$Facts" (58 : Nat) "DustParish$Facts" "rooms" "I") ∈ TBG := tb_in (tk1 (List.mem_of_getElem? (i := 62) rfl)) rfl
theorem tw_63 : (Jvm.Cond.fieldLink "DustParish$Course" (37 : Nat) "DustParish$Facts" "rooms" "I") ∈ TBG := tb_in (tk1 (List.mem_of_getElem? (i := 63) rfl)) rfl
theorem tw_64 : (Jvm.Cond.fieldLink "DustParish" (104 : Nat) "DustParish$Facts" "rooms" "I") ∈ TBG := tb_in (tk1 (List.mem_of_getElem? (i := 64) rfl)) rfl
theorem tw_65 : (Jvm.Cond.fieldLink "DustParish$Reader" (142 : Nat) "DustParish$Facts" "rooms" "I") ∈ TBG := tb_in (tk1 (List.mem_of_getElem? (i := 65) rfl)) rfl
theorem tw_66 : (Jvm.Cond.fieldLink "DustParish$Facts" (9 : Nat) "DustParish$Facts" "kind" "[I") ∈ TBG := tb_in (tk1 (List.mem_of_getElem? (i := 66) rfl)) rfl
theorem tw_67 : (Jvm.Cond.fieldLink "DustParish$Course" (100 : Nat) "DustParish$Facts" "kind" "[I") ∈ TBG := tb_in (tk1 (List.mem_of_getElem? (i := 67) rfl)) rfl
theorem tw_68 : (Jvm.Cond.fieldLink "DustParish" (165 : Nat) "DustParish$Facts" "kind" "[I") ∈ TBG := tb_in (tk1 (List.mem_of_getElem? (i := 68) rfl)) rfl
theorem tw_69 : (Jvm.Cond.fieldLink "DustParish$Reader" (145 : Nat) "DustParish$Facts" "kind" "[I") ∈ TBG := tb_in (tk1 (List.mem_of_getElem? (i := 69) rfl)) rfl
theorem tw_70 : (Jvm.Cond.fieldLink "DustParish$Facts" (15 : Nat) "DustParish$Facts" "owner" "[I") ∈ TBG := tb_in (tk1 (List.mem_of_getElem? (i := 70) rfl)) rfl
theorem tw_71 : (Jvm.Cond.fieldLink "DustParish$Course" (103 : Nat) "DustParish$Facts" "owner" "[I") ∈ TBG := tb_in (tk1 (List.mem_of_getElem? (i := 71) rfl)) rfl
theorem tw_72 : (Jvm.Cond.fieldLink "DustParish" (168 : Nat) "DustParish$Facts" "owner" "[I") ∈ TBG := tb_in (tk1 (List.mem_of_getElem? (i := 72) rfl)) rfl
theorem tw_73 : (Jvm.Cond.fieldLink "DustParish$Reader" (153 : Nat) "DustParish$Facts" "owner" "[I") ∈ TBG := tb_in (tk1 (List.mem_of_getElem? (i := 73) rfl)) rfl
theorem tw_74 : (Jvm.Cond.fieldLink "DustParish$Facts" (18 : Nat) "DustParish$Facts" "dust" "[I") ∈ TBG := tb_in (tk1 (List.mem_of_getElem? (i := 74) rfl)) rfl
theorem tw_75 : (Jvm.Cond.fieldLink "DustParish$State" (31 : Nat) "DustParish$Facts" "dust" "[I") ∈ TBG := tb_in (tk1 (List.mem_of_getElem? (i := 75) rfl)) rfl
theorem tw_76 : (Jvm.Cond.fieldLink "DustParish$Reader" (156 : Nat) "DustParish$Facts" "dust" "[I") ∈ TBG := tb_in (tk1 (List.mem_of_getElem? (i := 76) rfl)) rfl
theorem tw_77 : (Jvm.Cond.fieldLink "DustParish$Facts" (21 : Nat) "DustParish$Facts" "settles" "[I") ∈ TBG := tb_in (tk1 (List.mem_of_getElem? (i := 77) rfl)) rfl
theorem tw_78 : (Jvm.Cond.fieldLink "DustParish" (174 : Nat) "DustParish$Facts" "settles" "[I") ∈ TBG := tb_in (tk1 (List.mem_of_getElem? (i := 78) rfl)) rfl
theorem tw_79 : (Jvm.Cond.fieldLink "DustParish$Reader" (159 : Nat) "DustParish$Facts" "settles" "[I") ∈ TBG := tb_in (tk1 (List.mem_of_getElem? (i := 79) rfl)) rfl
theorem tw_80 : (Jvm.Cond.fieldLink "DustParish$Facts" (62 : Nat) "DustParish$Facts" "doors" "I") ∈ TBG := tb_in (tk1 (List.mem_of_getElem? (i := 80) rfl)) rfl
theorem tw_81 : (Jvm.Cond.fieldLink "DustParish" (107 : Nat) "DustParish$Facts" "doors" "I") ∈ TBG := tb_in (tk1 (List.mem_of_getElem? (i := 81) rfl)) rfl
theorem tw_82 : (Jvm.Cond.fieldLink "DustParish$Reader" (162 : Nat) "DustParish$Facts" "doors" "I") ∈ TBG := tb_in (tk1 (List.mem_of_getElem? (i := 82) rfl)) rfl
theorem tw_83 : (Jvm.Cond.fieldLink "DustParish$Facts" (24 : Nat) "DustParish$Facts" "doorOne" "[I") ∈ TBG := tb_in (tk1 (List.mem_of_getElem? (i := 83) rfl)) rfl
theorem tw_84 : (Jvm.Cond.fieldLink "DustParish$Facts" (27 : Nat) "DustParish$Facts" "doorOther" "[I") ∈ TBG := tb_in (tk1 (List.mem_of_getElem? (i := 84) rfl)) rfl
theorem tw_85 : (Jvm.Cond.fieldLink "DustParish$Facts" (65 : Nat) "DustParish$Facts" "winds" "I") ∈ TBG := tb_in (tk1 (List.mem_of_getElem? (i := 85) rfl)) rfl
theorem tw_86 : (Jvm.Cond.fieldLink "DustParish$Course" (48 : Nat) "DustParish$Facts" "winds" "I") ∈ TBG := tb_in (tk1 (List.mem_of_getElem? (i := 86) rfl)) rfl
theorem tw_87 : (Jvm.Cond.fieldLink "DustParish" (110 : Nat) "DustParish$Facts" "winds" "I") ∈ TBG := tb_in (tk1 (List.mem_of_getElem? (i := 87) rfl)) rfl
theorem tw_88 : (Jvm.Cond.fieldLink "DustParish$Reader" (176 : Nat) "DustParish$Facts" "winds" "I") ∈ TBG := tb_in (tk1 (List.mem_of_getElem? (i := 88) rfl)) rfl
theorem tw_89 : (Jvm.Cond.fieldLink "DustParish$Facts" (30 : Nat) "DustParish$Facts" "blows" "[I") ∈ TBG := tb_in (tk1 (List.mem_of_getElem? (i := 89) rfl)) rfl
theorem tw_90 : (Jvm.Cond.fieldLink "DustParish$Course" (59 : Nat) "DustParish$Facts" "blows" "[I") ∈ TBG := tb_in (tk1 (List.mem_of_getElem? (i := 90) rfl)) rfl
theorem tw_91 : (Jvm.Cond.fieldLink "DustParish" (192 : Nat) "DustParish$Facts" "blows" "[I") ∈ TBG := tb_in (tk1 (List.mem_of_getElem? (i := 91) rfl)) rfl
theorem tw_92 : (Jvm.Cond.fieldLink "DustParish$Reader" (179 : Nat) "DustParish$Facts" "blows" "[I") ∈ TBG := tb_in (tk1 (List.mem_of_getElem? (i := 92) rfl)) rfl
theorem tw_93 : (Jvm.Cond.fieldLink "DustParish$Facts" (33 : Nat) "DustParish$Facts" "blowFrom" "[I") ∈ TBG := tb_in (tk1 (List.mem_of_getElem? (i := 93) rfl)) rfl
theorem tw_94 : (Jvm.Cond.fieldLink "DustParish$Course" (65 : Nat) "DustParish$Facts" "blowFrom" "[I") ∈ TBG := tb_in (tk1 (List.mem_of_getElem? (i := 94) rfl)) rfl
theorem tw_95 : (Jvm.Cond.fieldLink "DustParish" (195 : Nat) "DustParish$Facts" "blowFrom" "[I") ∈ TBG := tb_in (tk1 (List.mem_of_getElem? (i := 95) rfl)) rfl
theorem tw_96 : (Jvm.Cond.fieldLink "DustParish$Reader" (182 : Nat) "DustParish$Facts" "blowFrom" "[I") ∈ TBG := tb_in (tk1 (List.mem_of_getElem? (i := 96) rfl)) rfl
theorem tw_97 : (Jvm.Cond.fieldLink "DustParish$Facts" (36 : Nat) "DustParish$Facts" "blowTo" "[I") ∈ TBG := tb_in (tk1 (List.mem_of_getElem? (i := 97) rfl)) rfl
theorem tw_98 : (Jvm.Cond.fieldLink "DustParish$Course" (71 : Nat) "DustParish$Facts" "blowTo" "[I") ∈ TBG := tb_in (tk1 (List.mem_of_getElem? (i := 98) rfl)) rfl
theorem tw_99 : (Jvm.Cond.fieldLink "DustParish" (198 : Nat) "DustParish$Facts" "blowTo" "[I") ∈ TBG := tb_in (tk1 (List.mem_of_getElem? (i := 99) rfl)) rfl
theorem tw_100 : (Jvm.Cond.fieldLink "DustParish$Reader" (185 : Nat) "DustParish$Facts" "blowTo" "[I") ∈ TBG := tb_in (tk1 (List.mem_of_getElem? (i := 100) rfl)) rfl
theorem tw_101 : (Jvm.Cond.fieldLink "DustParish$Facts" (39 : Nat) "DustParish$Facts" "tenths" "[I") ∈ TBG := tb_in (tk1 (List.mem_of_getElem? (i := 101) rfl)) rfl
theorem tw_102 : (Jvm.Cond.fieldLink "DustParish$Course" (68 : Nat) "DustParish$Facts" "tenths" "[I") ∈ TBG := tb_in (tk1 (List.mem_of_getElem? (i := 102) rfl)) rfl
theorem tw_103 : (Jvm.Cond.fieldLink "DustParish" (201 : Nat) "DustParish$Facts" "tenths" "[I") ∈ TBG := tb_in (tk1 (List.mem_of_getElem? (i := 103) rfl)) rfl
theorem tw_104 : (Jvm.Cond.fieldLink "DustParish$Reader" (188 : Nat) "DustParish$Facts" "tenths" "[I") ∈ TBG := tb_in (tk1 (List.mem_of_getElem? (i := 104) rfl)) rfl
theorem tw_105 : (Jvm.Cond.fieldLink "DustParish$Course" (9 : Nat) "DustParish$Facts" "numbers" "I") ∈ TBG := tb_in (tk1 (List.mem_of_getElem? (i := 105) rfl)) rfl
theorem tw_106 : (Jvm.Cond.fieldLink "DustParish$Facts" (68 : Nat) "DustParish$Facts" "numbers" "I") ∈ TBG := tb_in (tk1 (List.mem_of_getElem? (i := 106) rfl)) rfl
theorem tw_107 : (Jvm.Cond.fieldLink "DustParish" (113 : Nat) "DustParish$Facts" "numbers" "I") ∈ TBG := tb_in (tk1 (List.mem_of_getElem? (i := 107) rfl)) rfl
theorem tw_108 : (Jvm.Cond.fieldLink "DustParish$Reader" (193 : Nat) "DustParish$Facts" "numbers" "I") ∈ TBG := tb_in (tk1 (List.mem_of_getElem? (i := 108) rfl)) rfl
theorem tw_109 : (Jvm.Cond.fieldLink "DustParish$Facts" (42 : Nat) "DustParish$Facts" "calendar" "[I") ∈ TBG := tb_in (tk1 (List.mem_of_getElem? (i := 109) rfl)) rfl
theorem tw_110 : (Jvm.Cond.fieldLink "DustParish$State" (46 : Nat) "DustParish$Facts" "calendar" "[I") ∈ TBG := tb_in (tk1 (List.mem_of_getElem? (i := 110) rfl)) rfl
theorem tw_111 : (Jvm.Cond.fieldLink "DustParish$Reader" (191 : Nat) "DustParish$Facts" "calendar" "[I") ∈ TBG := tb_in (tk1 (List.mem_of_getElem? (i := 111) rfl)) rfl
theorem tw_112 : (Jvm.Cond.fieldLink "DustParish$Facts" (71 : Nat) "DustParish$Facts" "every" "I") ∈ TBG := tb_in (tk1 (List.mem_of_getElem? (i := 112) rfl)) rfl
theorem tw_113 : (Jvm.Cond.fieldLink "DustParish$Course" (30 : Nat) "DustParish$Facts" "every" "I") ∈ TBG := tb_in (tk1 (List.mem_of_getElem? (i := 113) rfl)) rfl
theorem tw_114 : (Jvm.Cond.fieldLink "DustParish" (116 : Nat) "DustParish$Facts" "every" "I") ∈ TBG := tb_in (tk1 (List.mem_of_getElem? (i := 114) rfl)) rfl
theorem tw_115 : (Jvm.Cond.fieldLink "DustParish$Reader" (196 : Nat) "DustParish$Facts" "every" "I") ∈ TBG := tb_in (tk1 (List.mem_of_getElem? (i := 115) rfl)) rfl
theorem tw_116 : (Jvm.Cond.fieldLink "DustParish$Facts" (74 : Nat) "DustParish$Facts" "clean" "I") ∈ TBG := tb_in (tk1 (List.mem_of_getElem? (i := 116) rfl)) rfl
theorem tw_117 : (Jvm.Cond.fieldLink "DustParish" (119 : Nat) "DustParish$Facts" "clean" "I") ∈ TBG := tb_in (tk1 (List.mem_of_getElem? (i := 117) rfl)) rfl
theorem tw_118 : (Jvm.Cond.fieldLink "DustParish$Course" (125 : Nat) "DustParish$Facts" "clean" "I") ∈ TBG := tb_in (tk1 (List.mem_of_getElem? (i := 118) rfl)) rfl
theorem tw_119 : (Jvm.Cond.fieldLink "DustParish$Reader" (198 : Nat) "DustParish$Facts" "clean" "I") ∈ TBG := tb_in (tk1 (List.mem_of_getElem? (i := 119) rfl)) rfl
theorem tw_120 : (Jvm.Cond.fieldLink "DustParish$Reader" (39 : Nat) "DustParish$Facts" "rule" "LDustParish$Rule;") ∈ TBG := tb_in (tk1 (List.mem_of_getElem? (i := 120) rfl)) rfl
theorem tw_121 : (Jvm.Cond.fieldLink "DustParish$Facts" (48 : Nat) "DustParish$Facts" "rule" "LDustParish$Rule;") ∈ TBG := tb_in (tk1 (List.mem_of_getElem? (i := 121) rfl)) rfl
theorem tw_122 : (Jvm.Cond.fieldLink "DustParish$Course" (87 : Nat) "DustParish$Facts" "rule" "LDustParish$Rule;") ∈ TBG := tb_in (tk1 (List.mem_of_getElem? (i := 122) rfl)) rfl
theorem tw_123 : (Jvm.Cond.fieldLink "DustParish$Facts" (52 : Nat) "DustParish$Facts" "ways" "[I") ∈ TBG := tb_in (tk1 (List.mem_of_getElem? (i := 123) rfl)) rfl
theorem tw_124 : (Jvm.Cond.fieldLink "DustParish$Facts" (55 : Nat) "DustParish$Facts" "houses" "[I") ∈ TBG := tb_in (tk1 (List.mem_of_getElem? (i := 124) rfl)) rfl
theorem tw_125 : (Jvm.Cond.fieldLink "DustParish$Course" (106 : Nat) "DustParish$Facts" "houses" "[I") ∈ TBG := tb_in (tk1 (List.mem_of_getElem? (i := 125) rfl)) rfl
theorem tw_126 : (Jvm.Cond.lays "DustParish$Facts" "DustParish$Facts" "rooms" "I") ∈ TBG := tb_in (tk1 (List.mem_of_getElem? (i := 126) rfl)) rfl
theorem tw_127 : (Jvm.Cond.soleField "DustParish$Facts" "rooms") ∈ TBG := tb_in (tk1 (List.mem_of_getElem? (i := 127) rfl)) rfl
theorem tw_128 : (Jvm.Cond.laysFinal "DustParish$Facts" "DustParish$Facts" "kind" "[I") ∈ TBG := tb_in (tk1 (List.mem_of_getElem? (i := 128) rfl)) rfl
theorem tw_129 : (Jvm.Cond.soleField "DustParish$Facts" "kind") ∈ TBG := tb_in (tk1 (List.mem_of_getElem? (i := 129) rfl)) rfl
theorem tw_130 : (Jvm.Cond.laysFinal "DustParish$Facts" "DustParish$Facts" "owner" "[I") ∈ TBG := tb_in (tk1 (List.mem_of_getElem? (i := 130) rfl)) rfl
theorem tw_131 : (Jvm.Cond.soleField "DustParish$Facts" "owner") ∈ TBG := tb_in (tk1 (List.mem_of_getElem? (i := 131) rfl)) rfl
theorem tw_132 : (Jvm.Cond.laysFinal "DustParish$Facts" "DustParish$Facts" "dust" "[I") ∈ TBG := tb_in (tk1 (List.mem_of_getElem? (i := 132) rfl)) rfl
theorem tw_133 : (Jvm.Cond.soleField "DustParish$Facts" "dust") ∈ TBG := tb_in (tk1 (List.mem_of_getElem? (i := 133) rfl)) rfl
theorem tw_134 : (Jvm.Cond.laysFinal "DustParish$Facts" "DustParish$Facts" "settles" "[I") ∈ TBG := tb_in (tk1 (List.mem_of_getElem? (i := 134) rfl)) rfl
theorem tw_135 : (Jvm.Cond.soleField "DustParish$Facts" "settles") ∈ TBG := tb_in (tk1 (List.mem_of_getElem? (i := 135) rfl)) rfl
theorem tw_136 : (Jvm.Cond.lays "DustParish$Facts" "DustParish$Facts" "doors" "I") ∈ TBG := tb_in (tk1 (List.mem_of_getElem? (i := 136) rfl)) rfl
theorem tw_137 : (Jvm.Cond.soleField "DustParish$Facts" "doors") ∈ TBG := tb_in (tk1 (List.mem_of_getElem? (i := 137) rfl)) rfl
theorem tw_138 : (Jvm.Cond.laysFinal "DustParish$Facts" "DustParish$Facts" "doorOne" "[I") ∈ TBG := tb_in (tk1 (List.mem_of_getElem? (i := 138) rfl)) rfl
theorem tw_139 : (Jvm.Cond.soleField "DustParish$Facts" "doorOne") ∈ TBG := tb_in (tk1 (List.mem_of_getElem? (i := 139) rfl)) rfl
theorem tw_140 : (Jvm.Cond.laysFinal "DustParish$Facts" "DustParish$Facts" "doorOther" "[I") ∈ TBG := tb_in (tk1 (List.mem_of_getElem? (i := 140) rfl)) rfl
theorem tw_141 : (Jvm.Cond.soleField "DustParish$Facts" "doorOther") ∈ TBG := tb_in (tk1 (List.mem_of_getElem? (i := 141) rfl)) rfl
theorem tw_142 : (Jvm.Cond.lays "DustParish$Facts" "DustParish$Facts" "winds" "I") ∈ TBG := tb_in (tk1 (List.mem_of_getElem? (i := 142) rfl)) rfl
theorem tw_143 : (Jvm.Cond.soleField "DustParish$Facts" "winds") ∈ TBG := tb_in (tk1 (List.mem_of_getElem? (i := 143) rfl)) rfl
theorem tw_144 : (Jvm.Cond.laysFinal "DustParish$Facts" "DustParish$Facts" "blows" "[I") ∈ TBG := tb_in (tk1 (List.mem_of_getElem? (i := 144) rfl)) rfl
theorem tw_145 : (Jvm.Cond.soleField "DustParish$Facts" "blows") ∈ TBG := tb_in (tk1 (List.mem_of_getElem? (i := 145) rfl)) rfl
theorem tw_146 : (Jvm.Cond.laysFinal "DustParish$Facts" "DustParish$Facts" "blowFrom" "[I") ∈ TBG := tb_in (tk1 (List.mem_of_getElem? (i := 146) rfl)) rfl
theorem tw_147 : (Jvm.Cond.soleField "DustParish$Facts" "blowFrom") ∈ TBG := tb_in (tk1 (List.mem_of_getElem? (i := 147) rfl)) rfl
theorem tw_148 : (Jvm.Cond.laysFinal "DustParish$Facts" "DustParish$Facts" "blowTo" "[I") ∈ TBG := tb_in (tk1 (List.mem_of_getElem? (i := 148) rfl)) rfl
theorem tw_149 : (Jvm.Cond.soleField "DustParish$Facts" "blowTo") ∈ TBG := tb_in (tk1 (List.mem_of_getElem? (i := 149) rfl)) rfl
theorem tw_150 : (Jvm.Cond.laysFinal "DustParish$Facts" "DustParish$Facts" "tenths" "[I") ∈ TBG := tb_in (tk1 (List.mem_of_getElem? (i := 150) rfl)) rfl
theorem tw_151 : (Jvm.Cond.soleField "DustParish$Facts" "tenths") ∈ TBG := tb_in (tk1 (List.mem_of_getElem? (i := 151) rfl)) rfl
theorem tw_152 : (Jvm.Cond.lays "DustParish$Facts" "DustParish$Facts" "numbers" "I") ∈ TBG := tb_in (tk1 (List.mem_of_getElem? (i := 152) rfl)) rfl
theorem tw_153 : (Jvm.Cond.soleField "DustParish$Facts" "numbers") ∈ TBG := tb_in (tk1 (List.mem_of_getElem? (i := 153) rfl)) rfl
theorem tw_154 : (Jvm.Cond.laysFinal "DustParish$Facts" "DustParish$Facts" "calendar" "[I") ∈ TBG := tb_in (tk1 (List.mem_of_getElem? (i := 154) rfl)) rfl
theorem tw_155 : (Jvm.Cond.soleField "DustParish$Facts" "calendar") ∈ TBG := tb_in (tk1 (List.mem_of_getElem? (i := 155) rfl)) rfl
theorem tw_156 : (Jvm.Cond.lays "DustParish$Facts" "DustParish$Facts" "every" "I") ∈ TBG := tb_in (tk1 (List.mem_of_getElem? (i := 156) rfl)) rfl
theorem tw_157 : (Jvm.Cond.soleField "DustParish$Facts" "every") ∈ TBG := tb_in (tk1 (List.mem_of_getElem? (i := 157) rfl)) rfl
theorem tw_158 : (Jvm.Cond.lays "DustParish$Facts" "DustParish$Facts" "clean" "I") ∈ TBG := tb_in (tk1 (List.mem_of_getElem? (i := 158) rfl)) rfl
theorem tw_159 : (Jvm.Cond.soleField "DustParish$Facts" "clean") ∈ TBG := tb_in (tk1 (List.mem_of_getElem? (i := 159) rfl)) rfl
theorem tw_160 : (Jvm.Cond.laysFinal "DustParish$Facts" "DustParish$Facts" "rule" "LDustParish$Rule;") ∈ TBG := tb_in (tk1 (List.mem_of_getElem? (i := 160) rfl)) rfl
theorem tw_161 : (Jvm.Cond.soleField "DustParish$Facts" "rule") ∈ TBG := tb_in (tk1 (List.mem_of_getElem? (i := 161) rfl)) rfl
theorem tw_162 : (Jvm.Cond.laysFinal "DustParish$Facts" "DustParish$Facts" "ways" "[I") ∈ TBG := tb_in (tk1 (List.mem_of_getElem? (i := 162) rfl)) rfl
theorem tw_163 : (Jvm.Cond.soleField "DustParish$Facts" "ways") ∈ TBG := tb_in (tk1 (List.mem_of_getElem? (i := 163) rfl)) rfl
theorem tw_164 : (Jvm.Cond.laysFinal "DustParish$Facts" "DustParish$Facts" "houses" "[I") ∈ TBG := tb_in (tk1 (List.mem_of_getElem? (i := 164) rfl)) rfl
theorem tw_165 : (Jvm.Cond.soleField "DustParish$Facts" "houses") ∈ TBG := tb_in (tk1 (List.mem_of_getElem? (i := 165) rfl)) rfl
theorem tw_166 : (Jvm.Cond.superclass "DustParish$Facts" "java/lang/Object") ∈ TBG := tb_in (tk1 (List.mem_of_getElem? (i := 166) rfl)) rfl
theorem tw_167 : (Jvm.Cond.classLink "DustParish" (30 : Nat) "DustParish$Reader") ∈ TBG := tb_in (tk1 (List.mem_of_getElem? (i := 167) rfl)) rfl
theorem tw_168 : (Jvm.Cond.instantiable "DustParish$Reader" (8 : Nat)) ∈ TBG := tb_in (tk1 (List.mem_of_getElem? (i := 168) rfl)) rfl
theorem tw_169 : (Jvm.Cond.methodLink "DustParish" (32 : Nat) yX4_init) ∈ TBG := tb_in (tk1 (List.mem_of_getElem? (i := 169) rfl)) rfl
theorem tw_170 : (Jvm.Cond.instanceMethod yX4_init) ∈ TBG := tb_in (tk1 (List.mem_of_getElem? (i := 170) rfl)) rfl
theorem tw_171 : (Jvm.Cond.code yX4_init cX4_init (3 : Nat) (Option.none : Option Jvm.ClassFile.FieldType)) ∈ TBG := tb_in (tk1 (List.mem_of_getElem? (i := 171) rfl)) rfl
theorem tw_172 : (Jvm.Cond.methodLink "DustParish$Reader" (3 : Nat) ({ cls := "java/lang/Object", name := "<init>", desc := "()V" } : Jvm.MethodName)) ∈ TBG := tb_in (tk1 (List.mem_of_getElem? (i := 172) rfl)) rfl
theorem tw_173 : (Jvm.Cond.classLink "DustParish$Reader" (28 : Nat) "DustParish$Tokens") ∈ TBG := tb_in (tk1 (List.mem_of_getElem? (i := 173) rfl)) rfl
theorem tw_174 : (Jvm.Cond.instantiable "DustParish$Tokens" (7 : Nat)) ∈ TBG := tb_in (tk1 (List.mem_of_getElem? (i := 174) rfl)) rfl
theorem tw_175 : (Jvm.Cond.methodLink "DustParish$Reader" (30 : Nat) yX9_init) ∈ TBG := tb_in (tk1 (List.mem_of_getElem? (i := 175) rfl)) rfl
theorem tw_176 : (Jvm.Cond.instanceMethod yX9_init) ∈ TBG := tb_in (tk1 (List.mem_of_getElem? (i := 176) rfl)) rfl
theorem tw_177 : (Jvm.Cond.code yX9_init cX9_init (2 : Nat) (Option.none : Option Jvm.ClassFile.FieldType)) ∈ TBG := tb_in (tk1 (List.mem_of_getElem? (i := 177) rfl)) rfl
theorem tw_178 : (Jvm.Cond.methodLink "DustParish$Tokens" (1 : Nat) ({ cls := "java/lang/Object", name := "<init>", desc := "()V" } : Jvm.MethodName)) ∈ TBG := tb_in (tk1 (List.mem_of_getElem? (i := 178) rfl)) rfl
theorem tw_179 : (Jvm.Cond.fieldLink "DustParish$Tokens" (9 : Nat) "DustParish$Tokens" "what" "I") ∈ TBG := tb_in (tk1 (List.mem_of_getElem? (i := 179) rfl)) rfl
theorem tw_180 : (Jvm.Cond.fieldLink "DustParish$Reader" (66 : Nat) "DustParish$Tokens" "what" "I") ∈ TBG := tb_in (tk1 (List.mem_of_getElem? (i := 180) rfl)) rfl
theorem tw_181 : (Jvm.Cond.fieldLink "DustParish$RuleReader" (66 : Nat) "DustParish$Tokens" "what" "I") ∈ TBG := tb_in (tk1 (List.mem_of_getElem? (i := 181) rfl)) rfl
theorem tw_182 : (Jvm.Cond.fieldLink "DustParish$Tokens" (13 : Nat) "DustParish$Tokens" "start" "I") ∈ TBG := tb_in (tk1 (List.mem_of_getElem? (i := 182) rfl)) rfl
theorem tw_183 : (Jvm.Cond.fieldLink "DustParish$Reader" (56 : Nat) "DustParish$Tokens" "start" "I") ∈ TBG := tb_in (tk1 (List.mem_of_getElem? (i := 183) rfl)) rfl
theorem tw_184 : (Jvm.Cond.fieldLink "DustParish$Tokens" (16 : Nat) "DustParish$Tokens" "value" "I") ∈ TBG := tb_in (tk1 (List.mem_of_getElem? (i := 184) rfl)) rfl
theorem tw_185 : (Jvm.Cond.fieldLink "DustParish$Reader" (133 : Nat) "DustParish$Tokens" "value" "I") ∈ TBG := tb_in (tk1 (List.mem_of_getElem? (i := 185) rfl)) rfl
theorem tw_186 : (Jvm.Cond.fieldLink "DustParish$RuleReader" (81 : Nat) "DustParish$Tokens" "value" "I") ∈ TBG := tb_in (tk1 (List.mem_of_getElem? (i := 186) rfl)) rfl
theorem tw_187 : (Jvm.Cond.fieldLink "DustParish$Tokens" (19 : Nat) "DustParish$Tokens" "tooLong" "Z") ∈ TBG := tb_in (tk1 (List.mem_of_getElem? (i := 187) rfl)) rfl
theorem tw_188 : (Jvm.Cond.fieldLink "DustParish$RuleReader" (87 : Nat) "DustParish$Tokens" "tooLong" "Z") ∈ TBG := tb_in (tk1 (List.mem_of_getElem? (i := 188) rfl)) rfl
theorem tw_189 : (Jvm.Cond.fieldLink "DustParish$Reader" (139 : Nat) "DustParish$Tokens" "tooLong" "Z") ∈ TBG := tb_in (tk1 (List.mem_of_getElem? (i := 189) rfl)) rfl
theorem tw_190 : (Jvm.Cond.fieldLink "DustParish$Tokens" (23 : Nat) "DustParish$Tokens" "end" "I") ∈ TBG := tb_in (tk1 (List.mem_of_getElem? (i := 190) rfl)) rfl
theorem tw_191 : (Jvm.Cond.fieldLink "DustParish$Tokens" (26 : Nat) "DustParish$Tokens" "length" "I") ∈ TBG := tb_in (tk1 (List.mem_of_getElem? (i := 191) rfl)) rfl
theorem tw_192 : (Jvm.Cond.fieldLink "DustParish$Tokens" (29 : Nat) "DustParish$Tokens" "text" "[B") ∈ TBG := tb_in (tk1 (List.mem_of_getElem? (i := 192) rfl)) rfl
theorem tw_193 : (Jvm.Cond.lays "DustParish$Tokens" "DustParish$Tokens" "what" "I") ∈ TBG := tb_in (tk1 (List.mem_of_getElem? (i := 193) rfl)) rfl
theorem tw_194 : (Jvm.Cond.soleField "DustParish$Tokens" "what") ∈ TBG := tb_in (tk1 (List.mem_of_getElem? (i := 194) rfl)) rfl
theorem tw_195 : (Jvm.Cond.lays "DustParish$Tokens" "DustParish$Tokens" "start" "I") ∈ TBG := tb_in (tk1 (List.mem_of_getElem? (i := 195) rfl)) rfl
theorem tw_196 : (Jvm.Cond.soleField "DustParish$Tokens" "start") ∈ TBG := tb_in (tk1 (List.mem_of_getElem? (i := 196) rfl)) rfl
theorem tw_197 : (Jvm.Cond.lays "DustParish$Tokens" "DustParish$Tokens" "value" "I") ∈ TBG := tb_in (tk1 (List.mem_of_getElem? (i := 197) rfl)) rfl
theorem tw_198 : (Jvm.Cond.soleField "DustParish$Tokens" "value") ∈ TBG := tb_in (tk1 (List.mem_of_getElem? (i := 198) rfl)) rfl
theorem tw_199 : (Jvm.Cond.lays "DustParish$Tokens" "DustParish$Tokens" "tooLong" "Z") ∈ TBG := tb_in (tk1 (List.mem_of_getElem? (i := 199) rfl)) rfl
theorem tw_200 : (Jvm.Cond.soleField "DustParish$Tokens" "tooLong") ∈ TBG := tb_in (tk1 (List.mem_of_getElem? (i := 200) rfl)) rfl
theorem tw_201 : (Jvm.Cond.lays "DustParish$Tokens" "DustParish$Tokens" "end" "I") ∈ TBG := tb_in (tk1 (List.mem_of_getElem? (i := 201) rfl)) rfl
theorem tw_202 : (Jvm.Cond.soleField "DustParish$Tokens" "end") ∈ TBG := tb_in (tk1 (List.mem_of_getElem? (i := 202) rfl)) rfl
theorem tw_203 : (Jvm.Cond.lays "DustParish$Tokens" "DustParish$Tokens" "length" "I") ∈ TBG := tb_in (tk1 (List.mem_of_getElem? (i := 203) rfl)) rfl
theorem tw_204 : (Jvm.Cond.soleField "DustParish$Tokens" "length") ∈ TBG := tb_in (tk1 (List.mem_of_getElem? (i := 204) rfl)) rfl
theorem tw_205 : (Jvm.Cond.laysFinal "DustParish$Tokens" "DustParish$Tokens" "text" "[B") ∈ TBG := tb_in (tk1 (List.mem_of_getElem? (i := 205) rfl)) rfl
theorem tw_206 : (Jvm.Cond.soleField "DustParish$Tokens" "text") ∈ TBG := tb_in (tk1 (List.mem_of_getElem? (i := 206) rfl)) rfl
theorem tw_207 : (Jvm.Cond.superclass "DustParish$Tokens" "java/lang/Object") ∈ TBG := tb_in (tk1 (List.mem_of_getElem? (i := 207) rfl)) rfl
theorem tw_208 : (Jvm.Cond.classLink "DustParish$Reader" (37 : Nat) "DustParish$RuleReader") ∈ TBG := tb_in (tk1 (List.mem_of_getElem? (i := 208) rfl)) rfl
theorem tw_209 : (Jvm.Cond.instantiable "DustParish$RuleReader" (8 : Nat)) ∈ TBG := tb_in (tk1 (List.mem_of_getElem? (i := 209) rfl)) rfl
theorem tw_210 : (Jvm.Cond.methodLink "DustParish$Reader" (45 : Nat) yX6_init) ∈ TBG := tb_in (tk1 (List.mem_of_getElem? (i := 210) rfl)) rfl
theorem tw_211 : (Jvm.Cond.instanceMethod yX6_init) ∈ TBG := tb_in (tk1 (List.mem_of_getElem? (i := 211) rfl)) rfl
theorem tw_212 : (Jvm.Cond.code yX6_init cX6_init (3 : Nat) (Option.none : Option Jvm.ClassFile.FieldType)) ∈ TBG := tb_in (tk1 (List.mem_of_getElem? (i := 212) rfl)) rfl
theorem tw_213 : (Jvm.Cond.methodLink "DustParish$RuleReader" (3 : Nat) ({ cls := "java/lang/Object", name := "<init>", desc := "()V" } : Jvm.MethodName)) ∈ TBG := tb_in (tk1 (List.mem_of_getElem? (i := 213) rfl)) rfl
theorem tw_214 : (Jvm.Cond.fieldLink "DustParish$RuleReader" (11 : Nat) "DustParish$RuleReader" "waiting" "[I") ∈ TBG := tb_in (tk1 (List.mem_of_getElem? (i := 214) rfl)) rfl
theorem tw_215 : (Jvm.Cond.fieldLink "DustParish$RuleReader" (15 : Nat) "DustParish$RuleReader" "many" "I") ∈ TBG := tb_in (tk1 (List.mem_of_getElem? (i := 215) rfl)) rfl
theorem tw_216 : (Jvm.Cond.fieldLink "DustParish$RuleReader" (19 : Nat) "DustParish$RuleReader" "depth" "I") ∈ TBG := tb_in (tk1 (List.mem_of_getElem? (i := 216) rfl)) rfl
theorem tw_217 : (Jvm.Cond.fieldLink "DustParish$RuleReader" (22 : Nat) "DustParish$RuleReader" "nots" "I") ∈ TBG := tb_in (tk1 (List.mem_of_getElem? (i := 217) rfl)) rfl
theorem tw_218 : (Jvm.Cond.fieldLink "DustParish$RuleReader" (25 : Nat) "DustParish$RuleReader" "wantsPart" "Z") ∈ TBG := tb_in (tk1 (List.mem_of_getElem? (i := 218) rfl)) rfl
theorem tw_219 : (Jvm.Cond.fieldLink "DustParish$RuleReader" (29 : Nat) "DustParish$RuleReader" "notMayStand" "Z") ∈ TBG := tb_in (tk1 (List.mem_of_getElem? (i := 219) rfl)) rfl
theorem tw_220 : (Jvm.Cond.fieldLink "DustParish$RuleReader" (32 : Nat) "DustParish$RuleReader" "tokens" "LDustParish$Tokens;") ∈ TBG := tb_in (tk1 (List.mem_of_getElem? (i := 220) rfl)) rfl
theorem tw_221 : (Jvm.Cond.fieldLink "DustParish$RuleReader" (36 : Nat) "DustParish$RuleReader" "rule" "LDustParish$Rule;") ∈ TBG := tb_in (tk1 (List.mem_of_getElem? (i := 221) rfl)) rfl
theorem tw_222 : (Jvm.Cond.laysFinal "DustParish$RuleReader" "DustParish$RuleReader" "waiting" "[I") ∈ TBG := tb_in (tk1 (List.mem_of_getElem? (i := 222) rfl)) rfl
theorem tw_223 : (Jvm.Cond.soleField "DustParish$RuleReader" "waiting") ∈ TBG := tb_in (tk1 (List.mem_of_getElem? (i := 223) rfl)) rfl
theorem tw_224 : (Jvm.Cond.lays "DustParish$RuleReader" "DustParish$RuleReader" "many" "I") ∈ TBG := tb_in (tk1 (List.mem_of_getElem? (i := 224) rfl)) rfl
theorem tw_225 : (Jvm.Cond.soleField "DustParish$RuleReader" "many") ∈ TBG := tb_in (tk1 (List.mem_of_getElem? (i := 225) rfl)) rfl
theorem tw_226 : (Jvm.Cond.lays "DustParish$RuleReader" "DustParish$RuleReader" "depth" "I") ∈ TBG := tb_in (tk1 (List.mem_of_getElem? (i := 226) rfl)) rfl
theorem tw_227 : (Jvm.Cond.soleField "DustParish$RuleReader" "depth") ∈ TBG := tb_in (tk1 (List.mem_of_getElem? (i := 227) rfl)) rfl
theorem tw_228 : (Jvm.Cond.lays "DustParish$RuleReader" "DustParish$RuleReader" "nots" "I") ∈ TBG := tb_in (tk1 (List.mem_of_getElem? (i := 228) rfl)) rfl
theorem tw_229 : (Jvm.Cond.soleField "DustParish$RuleReader" "nots") ∈ TBG := tb_in (tk1 (List.mem_of_getElem? (i := 229) rfl)) rfl
theorem tw_230 : (Jvm.Cond.lays "DustParish$RuleReader" "DustParish$RuleReader" "wantsPart" "Z") ∈ TBG := tb_in (tk1 (List.mem_of_getElem? (i := 230) rfl)) rfl
theorem tw_231 : (Jvm.Cond.soleField "DustParish$RuleReader" "wantsPart") ∈ TBG := tb_in (tk1 (List.mem_of_getElem? (i := 231) rfl)) rfl
theorem tw_232 : (Jvm.Cond.lays "DustParish$RuleReader" "DustParish$RuleReader" "notMayStand" "Z") ∈ TBG := tb_in (tk1 (List.mem_of_getElem? (i := 232) rfl)) rfl
theorem tw_233 : (Jvm.Cond.soleField "DustParish$RuleReader" "notMayStand") ∈ TBG := tb_in (tk1 (List.mem_of_getElem? (i := 233) rfl)) rfl
theorem tw_234 : (Jvm.Cond.laysFinal "DustParish$RuleReader" "DustParish$RuleReader" "tokens" "LDustParish$Tokens;") ∈ TBG := tb_in (tk1 (List.mem_of_getElem? (i := 234) rfl)) rfl
theorem tw_235 : (Jvm.Cond.soleField "DustParish$RuleReader" "tokens") ∈ TBG := tb_in (tk1 (List.mem_of_getElem? (i := 235) rfl)) rfl
theorem tw_236 : (Jvm.Cond.lays "DustParish$RuleReader" "DustParish$RuleReader" "rule" "LDustParish$Rule;") ∈ TBG := tb_in (tk1 (List.mem_of_getElem? (i := 236) rfl)) rfl
theorem tw_237 : (Jvm.Cond.soleField "DustParish$RuleReader" "rule") ∈ TBG := tb_in (tk1 (List.mem_of_getElem? (i := 237) rfl)) rfl
theorem tw_238 : (Jvm.Cond.superclass "DustParish$RuleReader" "java/lang/Object") ∈ TBG := tb_in (tk1 (List.mem_of_getElem? (i := 238) rfl)) rfl
theorem tw_239 : (Jvm.Cond.fieldLink "DustParish$Reader" (33 : Nat) "DustParish$Reader" "tokens" "LDustParish$Tokens;") ∈ TBG := tb_in (tk1 (List.mem_of_getElem? (i := 239) rfl)) rfl
theorem tw_240 : (Jvm.Cond.fieldLink "DustParish$Reader" (48 : Nat) "DustParish$Reader" "rules" "LDustParish$RuleReader;") ∈ TBG := tb_in (tk2 (List.mem_of_getElem? (i := 0) rfl)) rfl
theorem tw_241 : (Jvm.Cond.fieldLink "DustParish$Reader" (52 : Nat) "DustParish$Reader" "facts" "LDustParish$Facts;") ∈ TBG := tb_in (tk2 (List.mem_of_getElem? (i := 1) rfl)) rfl
theorem tw_242 : (Jvm.Cond.fieldLink "DustParish$Reader" (9 : Nat) "DustParish$Reader" "told" "I") ∈ TBG := tb_in (tk2 (List.mem_of_getElem? (i := 2) rfl)) rfl
theorem tw_243 : (Jvm.Cond.fieldLink "DustParish$Reader" (15 : Nat) "DustParish$Reader" "hasCalendar" "Z") ∈ TBG := tb_in (tk2 (List.mem_of_getElem? (i := 3) rfl)) rfl
theorem tw_244 : (Jvm.Cond.fieldLink "DustParish$Reader" (19 : Nat) "DustParish$Reader" "hasEvery" "Z") ∈ TBG := tb_in (tk2 (List.mem_of_getElem? (i := 4) rfl)) rfl
theorem tw_245 : (Jvm.Cond.fieldLink "DustParish$Reader" (22 : Nat) "DustParish$Reader" "hasClean" "Z") ∈ TBG := tb_in (tk2 (List.mem_of_getElem? (i := 5) rfl)) rfl
theorem tw_246 : (Jvm.Cond.fieldLink "DustParish$Reader" (25 : Nat) "DustParish$Reader" "hasTithe" "Z") ∈ TBG := tb_in (tk2 (List.mem_of_getElem? (i := 6) rfl)) rfl
theorem tw_247 : (Jvm.Cond.laysFinal "DustParish$Reader" "DustParish$Reader" "tokens" "LDustParish$Tokens;") ∈ TBG := tb_in (tk2 (List.mem_of_getElem? (i := 7) rfl)) rfl
theorem tw_248 : (Jvm.Cond.soleField "DustParish$Reader" "tokens") ∈ TBG := tb_in (tk2 (List.mem_of_getElem? (i := 8) rfl)) rfl
theorem tw_249 : (Jvm.Cond.laysFinal "DustParish$Reader" "DustParish$Reader" "rules" "LDustParish$RuleReader;") ∈ TBG := tb_in (tk2 (List.mem_of_getElem? (i := 9) rfl)) rfl
theorem tw_250 : (Jvm.Cond.soleField "DustParish$Reader" "rules") ∈ TBG := tb_in (tk2 (List.mem_of_getElem? (i := 10) rfl)) rfl
theorem tw_251 : (Jvm.Cond.lays "DustParish$Reader" "DustParish$Reader" "facts" "LDustParish$Facts;") ∈ TBG := tb_in (tk2 (List.mem_of_getElem? (i := 11) rfl)) rfl
theorem tw_252 : (Jvm.Cond.soleField "DustParish$Reader" "facts") ∈ TBG := tb_in (tk2 (List.mem_of_getElem? (i := 12) rfl)) rfl
theorem tw_253 : (Jvm.Cond.lays "DustParish$Reader" "DustParish$Reader" "told" "I") ∈ TBG := tb_in (tk2 (List.mem_of_getElem? (i := 13) rfl)) rfl
theorem tw_254 : (Jvm.Cond.soleField "DustParish$Reader" "told") ∈ TBG := tb_in (tk2 (List.mem_of_getElem? (i := 14) rfl)) rfl
theorem tw_255 : (Jvm.Cond.lays "DustParish$Reader" "DustParish$Reader" "hasCalendar" "Z") ∈ TBG := tb_in (tk2 (List.mem_of_getElem? (i := 15) rfl)) rfl
theorem tw_256 : (Jvm.Cond.soleField "DustParish$Reader" "hasCalendar") ∈ TBG := tb_in (tk2 (List.mem_of_getElem? (i := 16) rfl)) rfl
theorem tw_257 : (Jvm.Cond.lays "DustParish$Reader" "DustParish$Reader" "hasEvery" "Z") ∈ TBG := tb_in (tk2 (List.mem_of_getElem? (i := 17) rfl)) rfl
theorem tw_258 : (Jvm.Cond.soleField "DustParish$Reader" "hasEvery") ∈ TBG := tb_in (tk2 (List.mem_of_getElem? (i := 18) rfl)) rfl
theorem tw_259 : (Jvm.Cond.lays "DustParish$Reader" "DustParish$Reader" "hasClean" "Z") ∈ TBG := tb_in (tk2 (List.mem_of_getElem? (i := 19) rfl)) rfl
theorem tw_260 : (Jvm.Cond.soleField "DustParish$Reader" "hasClean") ∈ TBG := tb_in (tk2 (List.mem_of_getElem? (i := 20) rfl)) rfl
theorem tw_261 : (Jvm.Cond.lays "DustParish$Reader" "DustParish$Reader" "hasTithe" "Z") ∈ TBG := tb_in (tk2 (List.mem_of_getElem? (i := 21) rfl)) rfl
theorem tw_262 : (Jvm.Cond.soleField "DustParish$Reader" "hasTithe") ∈ TBG := tb_in (tk2 (List.mem_of_getElem? (i := 22) rfl)) rfl
theorem tw_263 : (Jvm.Cond.superclass "DustParish$Reader" "java/lang/Object") ∈ TBG := tb_in (tk2 (List.mem_of_getElem? (i := 23) rfl)) rfl
theorem tw_264 : (Jvm.Cond.classLink "DustParish" (39 : Nat) "DustParish$Present") ∈ TBG := tb_in (tk2 (List.mem_of_getElem? (i := 24) rfl)) rfl
theorem tw_265 : (Jvm.Cond.instantiable "DustParish$Present" (4 : Nat)) ∈ TBG := tb_in (tk2 (List.mem_of_getElem? (i := 25) rfl)) rfl
theorem tw_267 : (Jvm.Cond.instanceMethod yX3_init) ∈ TBG := tb_in (tk2 (List.mem_of_getElem? (i := 27) rfl)) rfl
theorem tw_268 : (Jvm.Cond.code yX3_init cX3_init (1 : Nat) (Option.none : Option Jvm.ClassFile.FieldType)) ∈ TBG := tb_in (tk2 (List.mem_of_getElem? (i := 28) rfl)) rfl
theorem tw_269 : (Jvm.Cond.methodLink "DustParish$Present" (1 : Nat) ({ cls := "java/lang/Object", name := "<init>", desc := "()V" } : Jvm.MethodName)) ∈ TBG := tb_in (tk2 (List.mem_of_getElem? (i := 29) rfl)) rfl
theorem tw_270 : (Jvm.Cond.classLink "DustParish$Present" (7 : Nat) "DustParish$State") ∈ TBG := tb_in (tk2 (List.mem_of_getElem? (i := 30) rfl)) rfl
theorem tw_271 : (Jvm.Cond.instantiable "DustParish$State" (6 : Nat)) ∈ TBG := tb_in (tk2 (List.mem_of_getElem? (i := 31) rfl)) rfl
theorem tw_273 : (Jvm.Cond.instanceMethod yX8_init) ∈ TBG := tb_in (tk2 (List.mem_of_getElem? (i := 33) rfl)) rfl
theorem tw_274 : (Jvm.Cond.code yX8_init cX8_init (1 : Nat) (Option.none : Option Jvm.ClassFile.FieldType)) ∈ TBG := tb_in (tk2 (List.mem_of_getElem? (i := 34) rfl)) rfl
theorem tw_275 : (Jvm.Cond.methodLink "DustParish$State" (3 : Nat) ({ cls := "java/lang/Object", name := "<init>", desc := "()V" } : Jvm.MethodName)) ∈ TBG := tb_in (tk2 (List.mem_of_getElem? (i := 35) rfl)) rfl
theorem tw_276 : (Jvm.Cond.fieldLink "DustParish$State" (21 : Nat) "DustParish$State" "day" "I") ∈ TBG := tb_in (tk2 (List.mem_of_getElem? (i := 36) rfl)) rfl
theorem tw_277 : (Jvm.Cond.fieldLink "DustParish$Course" (21 : Nat) "DustParish$State" "day" "I") ∈ TBG := tb_in (tk2 (List.mem_of_getElem? (i := 37) rfl)) rfl
theorem tw_278 : (Jvm.Cond.fieldLink "DustParish" (125 : Nat) "DustParish$State" "day" "I") ∈ TBG := tb_in (tk2 (List.mem_of_getElem? (i := 38) rfl)) rfl
theorem tw_279 : (Jvm.Cond.fieldLink "DustParish$State" (25 : Nat) "DustParish$State" "taken" "I") ∈ TBG := tb_in (tk2 (List.mem_of_getElem? (i := 39) rfl)) rfl
theorem tw_280 : (Jvm.Cond.fieldLink "DustParish$Course" (81 : Nat) "DustParish$State" "taken" "I") ∈ TBG := tb_in (tk2 (List.mem_of_getElem? (i := 40) rfl)) rfl
theorem tw_281 : (Jvm.Cond.fieldLink "DustParish" (134 : Nat) "DustParish$State" "taken" "I") ∈ TBG := tb_in (tk2 (List.mem_of_getElem? (i := 41) rfl)) rfl
theorem tw_282 : (Jvm.Cond.fieldLink "DustParish$State" (28 : Nat) "DustParish$State" "stolen" "I") ∈ TBG := tb_in (tk2 (List.mem_of_getElem? (i := 42) rfl)) rfl
theorem tw_283 : (Jvm.Cond.fieldLink "DustParish" (137 : Nat) "DustParish$State" "stolen" "I") ∈ TBG := tb_in (tk2 (List.mem_of_getElem? (i := 43) rfl)) rfl
theorem tw_284 : (Jvm.Cond.fieldLink "DustParish$State" (9 : Nat) "DustParish$State" "dust" "[I") ∈ TBG := tb_in (tk2 (List.mem_of_getElem? (i := 44) rfl)) rfl
theorem tw_285 : (Jvm.Cond.fieldLink "DustParish$Sights" (31 : Nat) "DustParish$State" "dust" "[I") ∈ TBG := tb_in (tk2 (List.mem_of_getElem? (i := 45) rfl)) rfl
theorem tw_286 : (Jvm.Cond.fieldLink "DustParish$Course" (62 : Nat) "DustParish$State" "dust" "[I") ∈ TBG := tb_in (tk2 (List.mem_of_getElem? (i := 46) rfl)) rfl
theorem tw_287 : (Jvm.Cond.fieldLink "DustParish" (171 : Nat) "DustParish$State" "dust" "[I") ∈ TBG := tb_in (tk2 (List.mem_of_getElem? (i := 47) rfl)) rfl
theorem tw_288 : (Jvm.Cond.fieldLink "DustParish$State" (15 : Nat) "DustParish$State" "brought" "[I") ∈ TBG := tb_in (tk2 (List.mem_of_getElem? (i := 48) rfl)) rfl
theorem tw_289 : (Jvm.Cond.fieldLink "DustParish$Course" (84 : Nat) "DustParish$State" "brought" "[I") ∈ TBG := tb_in (tk2 (List.mem_of_getElem? (i := 49) rfl)) rfl
theorem tw_290 : (Jvm.Cond.fieldLink "DustParish" (177 : Nat) "DustParish$State" "brought" "[I") ∈ TBG := tb_in (tk2 (List.mem_of_getElem? (i := 50) rfl)) rfl
theorem tw_291 : (Jvm.Cond.fieldLink "DustParish$State" (18 : Nat) "DustParish$State" "calendar" "[I") ∈ TBG := tb_in (tk2 (List.mem_of_getElem? (i := 51) rfl)) rfl
theorem tw_292 : (Jvm.Cond.fieldLink "DustParish$Course" (15 : Nat) "DustParish$State" "calendar" "[I") ∈ TBG := tb_in (tk2 (List.mem_of_getElem? (i := 52) rfl)) rfl
theorem tw_293 : (Jvm.Cond.fieldLink "DustParish" (229 : Nat) "DustParish$State" "calendar" "[I") ∈ TBG := tb_in (tk2 (List.mem_of_getElem? (i := 53) rfl)) rfl
theorem tw_294 : (Jvm.Cond.lays "DustParish$State" "DustParish$State" "day" "I") ∈ TBG := tb_in (tk2 (List.mem_of_getElem? (i := 54) rfl)) rfl
theorem tw_295 : (Jvm.Cond.soleField "DustParish$State" "day") ∈ TBG := tb_in (tk2 (List.mem_of_getElem? (i := 55) rfl)) rfl
theorem tw_296 : (Jvm.Cond.lays "DustParish$State" "DustParish$State" "taken" "I") ∈ TBG := tb_in (tk2 (List.mem_of_getElem? (i := 56) rfl)) rfl
theorem tw_297 : (Jvm.Cond.soleField "DustParish$State" "taken") ∈ TBG := tb_in (tk2 (List.mem_of_getElem? (i := 57) rfl)) rfl
theorem tw_298 : (Jvm.Cond.lays "DustParish$State" "DustParish$State" "stolen" "I") ∈ TBG := tb_in (tk2 (List.mem_of_getElem? (i := 58) rfl)) rfl
theorem tw_299 : (Jvm.Cond.soleField "DustParish$State" "stolen") ∈ TBG := tb_in (tk2 (List.mem_of_getElem? (i := 59) rfl)) rfl
theorem tw_300 : (Jvm.Cond.laysFinal "DustParish$State" "DustParish$State" "dust" "[I") ∈ TBG := tb_in (tk2 (List.mem_of_getElem? (i := 60) rfl)) rfl
theorem tw_301 : (Jvm.Cond.soleField "DustParish$State" "dust") ∈ TBG := tb_in (tk2 (List.mem_of_getElem? (i := 61) rfl)) rfl
theorem tw_302 : (Jvm.Cond.laysFinal "DustParish$State" "DustParish$State" "brought" "[I") ∈ TBG := tb_in (tk2 (List.mem_of_getElem? (i := 62) rfl)) rfl
theorem tw_303 : (Jvm.Cond.soleField "DustParish$State" "brought") ∈ TBG := tb_in (tk2 (List.mem_of_getElem? (i := 63) rfl)) rfl
theorem tw_304 : (Jvm.Cond.laysFinal "DustParish$State" "DustParish$State" "calendar" "[I") ∈ TBG := tb_in (tk2 (List.mem_of_getElem? (i := 64) rfl)) rfl
theorem tw_305 : (Jvm.Cond.soleField "DustParish$State" "calendar") ∈ TBG := tb_in (tk2 (List.mem_of_getElem? (i := 65) rfl)) rfl
theorem tw_306 : (Jvm.Cond.superclass "DustParish$State" "java/lang/Object") ∈ TBG := tb_in (tk2 (List.mem_of_getElem? (i := 66) rfl)) rfl
theorem tw_307 : (Jvm.Cond.classLink "DustParish$Present" (16 : Nat) "DustParish$Acts") ∈ TBG := tb_in (tk2 (List.mem_of_getElem? (i := 67) rfl)) rfl
theorem tw_308 : (Jvm.Cond.instantiable "DustParish$Acts" (3 : Nat)) ∈ TBG := tb_in (tk2 (List.mem_of_getElem? (i := 68) rfl)) rfl
theorem tw_309 : (Jvm.Cond.methodLink "DustParish$Present" (18 : Nat) yX0_init) ∈ TBG := tb_in (tk2 (List.mem_of_getElem? (i := 69) rfl)) rfl
theorem tw_310 : (Jvm.Cond.instanceMethod yX0_init) ∈ TBG := tb_in (tk2 (List.mem_of_getElem? (i := 70) rfl)) rfl
theorem tw_311 : (Jvm.Cond.code yX0_init cX0_init (2 : Nat) (Option.none : Option Jvm.ClassFile.FieldType)) ∈ TBG := tb_in (tk2 (List.mem_of_getElem? (i := 71) rfl)) rfl
theorem tw_312 : (Jvm.Cond.methodLink "DustParish$Acts" (3 : Nat) ({ cls := "java/lang/Object", name := "<init>", desc := "()V" } : Jvm.MethodName)) ∈ TBG := tb_in (tk2 (List.mem_of_getElem? (i := 72) rfl)) rfl
theorem tw_313 : (Jvm.Cond.classLink "DustParish$Acts" (18 : Nat) "DustParish$State") ∈ TBG := tb_in (tk2 (List.mem_of_getElem? (i := 73) rfl)) rfl
theorem tw_316 : (Jvm.Cond.fieldLink "DustParish$Acts" (9 : Nat) "DustParish$Acts" "many" "I") ∈ TBG := tb_in (tk2 (List.mem_of_getElem? (i := 76) rfl)) rfl
theorem tw_317 : (Jvm.Cond.fieldLink "DustParish$Present" (38 : Nat) "DustParish$Acts" "many" "I") ∈ TBG := tb_in (tk2 (List.mem_of_getElem? (i := 77) rfl)) rfl
theorem tw_318 : (Jvm.Cond.fieldLink "DustParish" (147 : Nat) "DustParish$Acts" "many" "I") ∈ TBG := tb_in (tk2 (List.mem_of_getElem? (i := 78) rfl)) rfl
theorem tw_319 : (Jvm.Cond.fieldLink "DustParish$Acts" (15 : Nat) "DustParish$Acts" "first" "I") ∈ TBG := tb_in (tk2 (List.mem_of_getElem? (i := 79) rfl)) rfl
theorem tw_320 : (Jvm.Cond.fieldLink "DustParish$Acts" (20 : Nat) "DustParish$Acts" "before" "[LDustParish$State;") ∈ TBG := tb_in (tk2 (List.mem_of_getElem? (i := 80) rfl)) rfl
theorem tw_321 : (Jvm.Cond.lays "DustParish$Acts" "DustParish$Acts" "many" "I") ∈ TBG := tb_in (tk2 (List.mem_of_getElem? (i := 81) rfl)) rfl
theorem tw_322 : (Jvm.Cond.soleField "DustParish$Acts" "many") ∈ TBG := tb_in (tk2 (List.mem_of_getElem? (i := 82) rfl)) rfl
theorem tw_323 : (Jvm.Cond.lays "DustParish$Acts" "DustParish$Acts" "first" "I") ∈ TBG := tb_in (tk2 (List.mem_of_getElem? (i := 83) rfl)) rfl
theorem tw_324 : (Jvm.Cond.soleField "DustParish$Acts" "first") ∈ TBG := tb_in (tk2 (List.mem_of_getElem? (i := 84) rfl)) rfl
theorem tw_325 : (Jvm.Cond.laysFinal "DustParish$Acts" "DustParish$Acts" "before" "[LDustParish$State;") ∈ TBG := tb_in (tk2 (List.mem_of_getElem? (i := 85) rfl)) rfl
theorem tw_326 : (Jvm.Cond.soleField "DustParish$Acts" "before") ∈ TBG := tb_in (tk2 (List.mem_of_getElem? (i := 86) rfl)) rfl
theorem tw_327 : (Jvm.Cond.superclass "DustParish$Acts" "java/lang/Object") ∈ TBG := tb_in (tk2 (List.mem_of_getElem? (i := 87) rfl)) rfl
theorem tw_328 : (Jvm.Cond.classLink "DustParish$Present" (23 : Nat) "DustParish$Sights") ∈ TBG := tb_in (tk2 (List.mem_of_getElem? (i := 88) rfl)) rfl
theorem tw_329 : (Jvm.Cond.instantiable "DustParish$Sights" (4 : Nat)) ∈ TBG := tb_in (tk2 (List.mem_of_getElem? (i := 89) rfl)) rfl
theorem tw_331 : (Jvm.Cond.instanceMethod yX7_init) ∈ TBG := tb_in (tk2 (List.mem_of_getElem? (i := 91) rfl)) rfl
theorem tw_332 : (Jvm.Cond.code yX7_init cX7_init (1 : Nat) (Option.none : Option Jvm.ClassFile.FieldType)) ∈ TBG := tb_in (tk2 (List.mem_of_getElem? (i := 92) rfl)) rfl
theorem tw_333 : (Jvm.Cond.methodLink "DustParish$Sights" (3 : Nat) ({ cls := "java/lang/Object", name := "<init>", desc := "()V" } : Jvm.MethodName)) ∈ TBG := tb_in (tk2 (List.mem_of_getElem? (i := 93) rfl)) rfl
theorem tw_334 : (Jvm.Cond.fieldLink "DustParish$Sights" (9 : Nat) "DustParish$Sights" "many" "I") ∈ TBG := tb_in (tk2 (List.mem_of_getElem? (i := 94) rfl)) rfl
theorem tw_335 : (Jvm.Cond.fieldLink "DustParish$Present" (42 : Nat) "DustParish$Sights" "many" "I") ∈ TBG := tb_in (tk2 (List.mem_of_getElem? (i := 95) rfl)) rfl
theorem tw_336 : (Jvm.Cond.fieldLink "DustParish" (156 : Nat) "DustParish$Sights" "many" "I") ∈ TBG := tb_in (tk2 (List.mem_of_getElem? (i := 96) rfl)) rfl
theorem tw_337 : (Jvm.Cond.fieldLink "DustParish$Sights" (15 : Nat) "DustParish$Sights" "room" "[I") ∈ TBG := tb_in (tk2 (List.mem_of_getElem? (i := 97) rfl)) rfl
theorem tw_338 : (Jvm.Cond.fieldLink "DustParish$Sights" (19 : Nat) "DustParish$Sights" "ahead" "[I") ∈ TBG := tb_in (tk2 (List.mem_of_getElem? (i := 98) rfl)) rfl
theorem tw_339 : (Jvm.Cond.fieldLink "DustParish$Sights" (22 : Nat) "DustParish$Sights" "much" "[I") ∈ TBG := tb_in (tk2 (List.mem_of_getElem? (i := 99) rfl)) rfl
theorem tw_340 : (Jvm.Cond.lays "DustParish$Sights" "DustParish$Sights" "many" "I") ∈ TBG := tb_in (tk2 (List.mem_of_getElem? (i := 100) rfl)) rfl
theorem tw_341 : (Jvm.Cond.soleField "DustParish$Sights" "many") ∈ TBG := tb_in (tk2 (List.mem_of_getElem? (i := 101) rfl)) rfl
theorem tw_342 : (Jvm.Cond.laysFinal "DustParish$Sights" "DustParish$Sights" "room" "[I") ∈ TBG := tb_in (tk2 (List.mem_of_getElem? (i := 102) rfl)) rfl
theorem tw_343 : (Jvm.Cond.soleField "DustParish$Sights" "room") ∈ TBG := tb_in (tk2 (List.mem_of_getElem? (i := 103) rfl)) rfl
theorem tw_344 : (Jvm.Cond.laysFinal "DustParish$Sights" "DustParish$Sights" "ahead" "[I") ∈ TBG := tb_in (tk2 (List.mem_of_getElem? (i := 104) rfl)) rfl
theorem tw_345 : (Jvm.Cond.soleField "DustParish$Sights" "ahead") ∈ TBG := tb_in (tk2 (List.mem_of_getElem? (i := 105) rfl)) rfl
theorem tw_346 : (Jvm.Cond.laysFinal "DustParish$Sights" "DustParish$Sights" "much" "[I") ∈ TBG := tb_in (tk2 (List.mem_of_getElem? (i := 106) rfl)) rfl
theorem tw_347 : (Jvm.Cond.soleField "DustParish$Sights" "much") ∈ TBG := tb_in (tk2 (List.mem_of_getElem? (i := 107) rfl)) rfl
theorem tw_348 : (Jvm.Cond.superclass "DustParish$Sights" "java/lang/Object") ∈ TBG := tb_in (tk2 (List.mem_of_getElem? (i := 108) rfl)) rfl
theorem tw_349 : (Jvm.Cond.fieldLink "DustParish$Present" (10 : Nat) "DustParish$Present" "state" "LDustParish$State;") ∈ TBG := tb_in (tk2 (List.mem_of_getElem? (i := 109) rfl)) rfl
theorem tw_350 : (Jvm.Cond.fieldLink "DustParish" (122 : Nat) "DustParish$Present" "state" "LDustParish$State;") ∈ TBG := tb_in (tk2 (List.mem_of_getElem? (i := 110) rfl)) rfl
theorem tw_351 : (Jvm.Cond.fieldLink "DustParish$Present" (19 : Nat) "DustParish$Present" "acts" "LDustParish$Acts;") ∈ TBG := tb_in (tk2 (List.mem_of_getElem? (i := 111) rfl)) rfl
theorem tw_352 : (Jvm.Cond.fieldLink "DustParish" (143 : Nat) "DustParish$Present" "acts" "LDustParish$Acts;") ∈ TBG := tb_in (tk2 (List.mem_of_getElem? (i := 112) rfl)) rfl
theorem tw_353 : (Jvm.Cond.fieldLink "DustParish$Present" (26 : Nat) "DustParish$Present" "sights" "LDustParish$Sights;") ∈ TBG := tb_in (tk2 (List.mem_of_getElem? (i := 113) rfl)) rfl
theorem tw_354 : (Jvm.Cond.fieldLink "DustParish" (152 : Nat) "DustParish$Present" "sights" "LDustParish$Sights;") ∈ TBG := tb_in (tk2 (List.mem_of_getElem? (i := 114) rfl)) rfl
theorem tw_355 : (Jvm.Cond.fieldLink "DustParish$Present" (30 : Nat) "DustParish$Present" "refused" "[I") ∈ TBG := tb_in (tk2 (List.mem_of_getElem? (i := 115) rfl)) rfl
theorem tw_356 : (Jvm.Cond.fieldLink "DustParish" (94 : Nat) "DustParish$Present" "refused" "[I") ∈ TBG := tb_in (tk2 (List.mem_of_getElem? (i := 116) rfl)) rfl
theorem tw_357 : (Jvm.Cond.laysFinal "DustParish$Present" "DustParish$Present" "state" "LDustParish$State;") ∈ TBG := tb_in (tk2 (List.mem_of_getElem? (i := 117) rfl)) rfl
theorem tw_358 : (Jvm.Cond.soleField "DustParish$Present" "state") ∈ TBG := tb_in (tk2 (List.mem_of_getElem? (i := 118) rfl)) rfl
theorem tw_359 : (Jvm.Cond.laysFinal "DustParish$Present" "DustParish$Present" "acts" "LDustParish$Acts;") ∈ TBG := tb_in (tk2 (List.mem_of_getElem? (i := 119) rfl)) rfl
theorem tw_360 : (Jvm.Cond.soleField "DustParish$Present" "acts") ∈ TBG := tb_in (tk2 (List.mem_of_getElem? (i := 120) rfl)) rfl
theorem tw_361 : (Jvm.Cond.laysFinal "DustParish$Present" "DustParish$Present" "sights" "LDustParish$Sights;") ∈ TBG := tb_in (tk2 (List.mem_of_getElem? (i := 121) rfl)) rfl
theorem tw_362 : (Jvm.Cond.soleField "DustParish$Present" "sights") ∈ TBG := tb_in (tk2 (List.mem_of_getElem? (i := 122) rfl)) rfl
theorem tw_363 : (Jvm.Cond.laysFinal "DustParish$Present" "DustParish$Present" "refused" "[I") ∈ TBG := tb_in (tk2 (List.mem_of_getElem? (i := 123) rfl)) rfl
theorem tw_364 : (Jvm.Cond.soleField "DustParish$Present" "refused") ∈ TBG := tb_in (tk2 (List.mem_of_getElem? (i := 124) rfl)) rfl
theorem tw_365 : (Jvm.Cond.superclass "DustParish$Present" "java/lang/Object") ∈ TBG := tb_in (tk2 (List.mem_of_getElem? (i := 125) rfl)) rfl
theorem tw_366 : (Jvm.Cond.classLink "DustParish" (53 : Nat) "DustParish$State") ∈ TBG := tb_in (tk2 (List.mem_of_getElem? (i := 126) rfl)) rfl
theorem tw_368 : (Jvm.Cond.methodLink "DustParish" (76 : Nat) yX2_clear) ∈ TBG := tb_in (tk2 (List.mem_of_getElem? (i := 128) rfl)) rfl
theorem tw_369 : (Jvm.Cond.instanceMethod yX2_clear) ∈ TBG := tb_in (tk2 (List.mem_of_getElem? (i := 129) rfl)) rfl
theorem tw_370 : (Jvm.Cond.selects "DustParish$Facts" yX2_clear yX2_clear) ∈ TBG := tb_in (tk2 (List.mem_of_getElem? (i := 130) rfl)) rfl
theorem tw_371 : (Jvm.Cond.code yX2_clear cX2_clear (1 : Nat) (Option.none : Option Jvm.ClassFile.FieldType)) ∈ TBG := tb_in (tk2 (List.mem_of_getElem? (i := 131) rfl)) rfl
theorem tw_372 : (Jvm.Cond.methodLink "DustParish$Facts" (77 : Nat) yX5_clear) ∈ TBG := tb_in (tk2 (List.mem_of_getElem? (i := 132) rfl)) rfl
theorem tw_373 : (Jvm.Cond.instanceMethod yX5_clear) ∈ TBG := tb_in (tk2 (List.mem_of_getElem? (i := 133) rfl)) rfl
theorem tw_374 : (Jvm.Cond.selects "DustParish$Rule" yX5_clear yX5_clear) ∈ TBG := tb_in (tk2 (List.mem_of_getElem? (i := 134) rfl)) rfl
theorem tw_375 : (Jvm.Cond.code yX5_clear cX5_clear (1 : Nat) (Option.none : Option Jvm.ClassFile.FieldType)) ∈ TBG := tb_in (tk2 (List.mem_of_getElem? (i := 135) rfl)) rfl
theorem tw_376 : (Jvm.Cond.methodLink "DustParish$Facts" (80 : Nat) yJ7_fill_53178) ∈ TBG := tb_in (tk2 (List.mem_of_getElem? (i := 136) rfl)) rfl
theorem tw_377 : (Jvm.Cond.static yJ7_fill_53178) ∈ TBG := tb_in (tk2 (List.mem_of_getElem? (i := 137) rfl)) rfl
theorem tw_378 : (Jvm.Cond.code yJ7_fill_53178 cJ7_fill_53178 (4 : Nat) (Option.none : Option Jvm.ClassFile.FieldType)) ∈ TBG := tb_in (tk2 (List.mem_of_getElem? (i := 138) rfl)) rfl
theorem tw_379 : (Jvm.Cond.fieldLink "DustParish" (9 : Nat) "DustParish" "tape" "[B") ∈ TBG := tb_in (tk2 (List.mem_of_getElem? (i := 139) rfl)) rfl
theorem tw_380 : (Jvm.Cond.fieldLink "DustParish" (13 : Nat) "DustParish" "tapeLength" "I") ∈ TBG := tb_in (tk2 (List.mem_of_getElem? (i := 140) rfl)) rfl
theorem tw_381 : (Jvm.Cond.fieldLink "DustParish" (17 : Nat) "DustParish" "faultPlace" "I") ∈ TBG := tb_in (tk2 (List.mem_of_getElem? (i := 141) rfl)) rfl
theorem tw_382 : (Jvm.Cond.fieldLink "DustParish" (23 : Nat) "DustParish" "facts" "LDustParish$Facts;") ∈ TBG := tb_in (tk2 (List.mem_of_getElem? (i := 142) rfl)) rfl
theorem tw_383 : (Jvm.Cond.fieldLink "DustParish" (27 : Nat) "DustParish" "spareFacts" "LDustParish$Facts;") ∈ TBG := tb_in (tk2 (List.mem_of_getElem? (i := 143) rfl)) rfl
theorem tw_384 : (Jvm.Cond.fieldLink "DustParish" (35 : Nat) "DustParish" "reader" "LDustParish$Reader;") ∈ TBG := tb_in (tk2 (List.mem_of_getElem? (i := 144) rfl)) rfl
theorem tw_385 : (Jvm.Cond.fieldLink "DustParish" (42 : Nat) "DustParish" "now" "LDustParish$Present;") ∈ TBG := tb_in (tk2 (List.mem_of_getElem? (i := 145) rfl)) rfl
theorem tw_386 : (Jvm.Cond.fieldLink "DustParish" (46 : Nat) "DustParish" "kept" "LDustParish$Present;") ∈ TBG := tb_in (tk2 (List.mem_of_getElem? (i := 146) rfl)) rfl
theorem tw_387 : (Jvm.Cond.fieldLink "DustParish" (49 : Nat) "DustParish" "hasImage" "Z") ∈ TBG := tb_in (tk2 (List.mem_of_getElem? (i := 147) rfl)) rfl
theorem tw_388 : (Jvm.Cond.fieldLink "DustParish" (56 : Nat) "DustParish" "trial" "LDustParish$State;") ∈ TBG := tb_in (tk2 (List.mem_of_getElem? (i := 148) rfl)) rfl
theorem tw_389 : (Jvm.Cond.fieldLink "DustParish" (60 : Nat) "DustParish" "windRow" "[I") ∈ TBG := tb_in (tk2 (List.mem_of_getElem? (i := 149) rfl)) rfl
theorem tw_390 : (Jvm.Cond.fieldLink "DustParish" (64 : Nat) "DustParish" "bestRow" "[I") ∈ TBG := tb_in (tk2 (List.mem_of_getElem? (i := 150) rfl)) rfl
theorem tw_391 : (Jvm.Cond.fieldLink "DustParish" (67 : Nat) "DustParish" "grains" "[I") ∈ TBG := tb_in (tk2 (List.mem_of_getElem? (i := 151) rfl)) rfl
theorem tw_392 : (Jvm.Cond.fieldLink "DustParish" (70 : Nat) "DustParish" "loads" "[I") ∈ TBG := tb_in (tk2 (List.mem_of_getElem? (i := 152) rfl)) rfl
theorem tw_393 : (Jvm.Cond.fieldLink "DustParish" (73 : Nat) "DustParish" "walks" "[I") ∈ TBG := tb_in (tk2 (List.mem_of_getElem? (i := 153) rfl)) rfl
theorem tw_394 : (Jvm.Cond.laysFinal "DustParish" "DustParish" "tape" "[B") ∈ TBG := tb_in (tk2 (List.mem_of_getElem? (i := 154) rfl)) rfl
theorem tw_395 : (Jvm.Cond.soleField "DustParish" "tape") ∈ TBG := tb_in (tk2 (List.mem_of_getElem? (i := 155) rfl)) rfl
theorem tw_396 : (Jvm.Cond.lays "DustParish" "DustParish" "tapeLength" "I") ∈ TBG := tb_in (tk2 (List.mem_of_getElem? (i := 156) rfl)) rfl
theorem tw_397 : (Jvm.Cond.soleField "DustParish" "tapeLength") ∈ TBG := tb_in (tk2 (List.mem_of_getElem? (i := 157) rfl)) rfl
theorem tw_398 : (Jvm.Cond.lays "DustParish" "DustParish" "faultPlace" "I") ∈ TBG := tb_in (tk2 (List.mem_of_getElem? (i := 158) rfl)) rfl
theorem tw_399 : (Jvm.Cond.soleField "DustParish" "faultPlace") ∈ TBG := tb_in (tk2 (List.mem_of_getElem? (i := 159) rfl)) rfl
theorem tw_400 : (Jvm.Cond.lays "DustParish" "DustParish" "facts" "LDustParish$Facts;") ∈ TBG := tb_in (tk2 (List.mem_of_getElem? (i := 160) rfl)) rfl
theorem tw_401 : (Jvm.Cond.soleField "DustParish" "facts") ∈ TBG := tb_in (tk2 (List.mem_of_getElem? (i := 161) rfl)) rfl
theorem tw_402 : (Jvm.Cond.lays "DustParish" "DustParish" "spareFacts" "LDustParish$Facts;") ∈ TBG := tb_in (tk2 (List.mem_of_getElem? (i := 162) rfl)) rfl
theorem tw_403 : (Jvm.Cond.soleField "DustParish" "spareFacts") ∈ TBG := tb_in (tk2 (List.mem_of_getElem? (i := 163) rfl)) rfl
theorem tw_404 : (Jvm.Cond.laysFinal "DustParish" "DustParish" "reader" "LDustParish$Reader;") ∈ TBG := tb_in (tk2 (List.mem_of_getElem? (i := 164) rfl)) rfl
theorem tw_405 : (Jvm.Cond.soleField "DustParish" "reader") ∈ TBG := tb_in (tk2 (List.mem_of_getElem? (i := 165) rfl)) rfl
theorem tw_406 : (Jvm.Cond.laysFinal "DustParish" "DustParish" "now" "LDustParish$Present;") ∈ TBG := tb_in (tk2 (List.mem_of_getElem? (i := 166) rfl)) rfl
theorem tw_407 : (Jvm.Cond.soleField "DustParish" "now") ∈ TBG := tb_in (tk2 (List.mem_of_getElem? (i := 167) rfl)) rfl
theorem tw_408 : (Jvm.Cond.laysFinal "DustParish" "DustParish" "kept" "LDustParish$Present;") ∈ TBG := tb_in (tk2 (List.mem_of_getElem? (i := 168) rfl)) rfl
theorem tw_409 : (Jvm.Cond.soleField "DustParish" "kept") ∈ TBG := tb_in (tk2 (List.mem_of_getElem? (i := 169) rfl)) rfl
theorem tw_410 : (Jvm.Cond.lays "DustParish" "DustParish" "hasImage" "Z") ∈ TBG := tb_in (tk2 (List.mem_of_getElem? (i := 170) rfl)) rfl
theorem tw_411 : (Jvm.Cond.soleField "DustParish" "hasImage") ∈ TBG := tb_in (tk2 (List.mem_of_getElem? (i := 171) rfl)) rfl
theorem tw_412 : (Jvm.Cond.laysFinal "DustParish" "DustParish" "trial" "LDustParish$State;") ∈ TBG := tb_in (tk2 (List.mem_of_getElem? (i := 172) rfl)) rfl
theorem tw_413 : (Jvm.Cond.soleField "DustParish" "trial") ∈ TBG := tb_in (tk2 (List.mem_of_getElem? (i := 173) rfl)) rfl
theorem tw_414 : (Jvm.Cond.laysFinal "DustParish" "DustParish" "windRow" "[I") ∈ TBG := tb_in (tk2 (List.mem_of_getElem? (i := 174) rfl)) rfl
theorem tw_415 : (Jvm.Cond.soleField "DustParish" "windRow") ∈ TBG := tb_in (tk2 (List.mem_of_getElem? (i := 175) rfl)) rfl
theorem tw_416 : (Jvm.Cond.laysFinal "DustParish" "DustParish" "bestRow" "[I") ∈ TBG := tb_in (tk2 (List.mem_of_getElem? (i := 176) rfl)) rfl
theorem tw_417 : (Jvm.Cond.soleField "DustParish" "bestRow") ∈ TBG := tb_in (tk2 (List.mem_of_getElem? (i := 177) rfl)) rfl
theorem tw_418 : (Jvm.Cond.laysFinal "DustParish" "DustParish" "grains" "[I") ∈ TBG := tb_in (tk2 (List.mem_of_getElem? (i := 178) rfl)) rfl
theorem tw_419 : (Jvm.Cond.soleField "DustParish" "grains") ∈ TBG := tb_in (tk2 (List.mem_of_getElem? (i := 179) rfl)) rfl
theorem tw_420 : (Jvm.Cond.laysFinal "DustParish" "DustParish" "loads" "[I") ∈ TBG := tb_in (tk2 (List.mem_of_getElem? (i := 180) rfl)) rfl
theorem tw_421 : (Jvm.Cond.soleField "DustParish" "loads") ∈ TBG := tb_in (tk2 (List.mem_of_getElem? (i := 181) rfl)) rfl
theorem tw_422 : (Jvm.Cond.laysFinal "DustParish" "DustParish" "walks" "[I") ∈ TBG := tb_in (tk2 (List.mem_of_getElem? (i := 182) rfl)) rfl
theorem tw_423 : (Jvm.Cond.soleField "DustParish" "walks") ∈ TBG := tb_in (tk2 (List.mem_of_getElem? (i := 183) rfl)) rfl
theorem tw_424 : (Jvm.Cond.superclass "DustParish" "java/lang/Object") ∈ TBG := tb_in (tk2 (List.mem_of_getElem? (i := 184) rfl)) rfl
theorem tw_425 : (Jvm.Cond.methodLink "DustParishLaw" (104 : Nat) yX10_feed) ∈ TBG := tb_in (tk2 (List.mem_of_getElem? (i := 185) rfl)) rfl
theorem tw_426 : (Jvm.Cond.instanceMethod yX10_feed) ∈ TBG := tb_in (tk2 (List.mem_of_getElem? (i := 186) rfl)) rfl
theorem tw_427 : (Jvm.Cond.selects "DustParish" yX10_feed yX10_feed) ∈ TBG := tb_in (tk2 (List.mem_of_getElem? (i := 187) rfl)) rfl
theorem tw_428 : (Jvm.Cond.code yX10_feed cX10_feed (6 : Nat) (Option.some Jvm.ClassFile.FieldType.int)) ∈ TBG := tb_in (tk2 (List.mem_of_getElem? (i := 188) rfl)) rfl
theorem tw_429 : (Jvm.Cond.methodLink "DustParish" (79 : Nat) yX10_append) ∈ TBG := tb_in (tk2 (List.mem_of_getElem? (i := 189) rfl)) rfl
theorem tw_431 : (Jvm.Cond.instanceMethod yX10_append) ∈ TBG := tb_in (tk2 (List.mem_of_getElem? (i := 191) rfl)) rfl
theorem tw_432 : (Jvm.Cond.code yX10_append cX10_append (3 : Nat) (Option.none : Option Jvm.ClassFile.FieldType)) ∈ TBG := tb_in (tk2 (List.mem_of_getElem? (i := 192) rfl)) rfl
theorem tw_433 : (Jvm.Cond.methodLink "DustParishLaw" (119 : Nat) yX10_fault) ∈ TBG := tb_in (tk2 (List.mem_of_getElem? (i := 193) rfl)) rfl
theorem tw_434 : (Jvm.Cond.instanceMethod yX10_fault) ∈ TBG := tb_in (tk2 (List.mem_of_getElem? (i := 194) rfl)) rfl
theorem tw_435 : (Jvm.Cond.selects "DustParish" yX10_fault yX10_fault) ∈ TBG := tb_in (tk2 (List.mem_of_getElem? (i := 195) rfl)) rfl
theorem tw_436 : (Jvm.Cond.code yX10_fault cX10_fault (1 : Nat) (Option.some Jvm.ClassFile.FieldType.int)) ∈ TBG := tb_in (tk2 (List.mem_of_getElem? (i := 196) rfl)) rfl
theorem tw_437 : (Jvm.Cond.methodLink "DustParishLaw" (143 : Nat) yX10_days) ∈ TBG := tb_in (tk2 (List.mem_of_getElem? (i := 197) rfl)) rfl
theorem tw_438 : (Jvm.Cond.instanceMethod yX10_days) ∈ TBG := tb_in (tk2 (List.mem_of_getElem? (i := 198) rfl)) rfl
theorem tw_439 : (Jvm.Cond.selects "DustParish" yX10_days yX10_days) ∈ TBG := tb_in (tk2 (List.mem_of_getElem? (i := 199) rfl)) rfl
theorem tw_440 : (Jvm.Cond.code yX10_days cX10_days (2 : Nat) (Option.some Jvm.ClassFile.FieldType.int)) ∈ TBG := tb_in (tk2 (List.mem_of_getElem? (i := 200) rfl)) rfl
theorem tw_441 : (Jvm.Cond.methodLink "DustParish" (207 : Nat) yX10_refuse) ∈ TBG := tb_in (tk2 (List.mem_of_getElem? (i := 201) rfl)) rfl
theorem tw_443 : (Jvm.Cond.instanceMethod yX10_refuse) ∈ TBG := tb_in (tk2 (List.mem_of_getElem? (i := 203) rfl)) rfl
theorem tw_444 : (Jvm.Cond.code yX10_refuse cX10_refuse (2 : Nat) (Option.some Jvm.ClassFile.FieldType.int)) ∈ TBG := tb_in (tk2 (List.mem_of_getElem? (i := 204) rfl)) rfl
theorem tw_445 : (Jvm.Cond.methodLink "DustParish" (210 : Nat) yX0_remember) ∈ TBG := tb_in (tk2 (List.mem_of_getElem? (i := 205) rfl)) rfl
theorem tw_446 : (Jvm.Cond.instanceMethod yX0_remember) ∈ TBG := tb_in (tk2 (List.mem_of_getElem? (i := 206) rfl)) rfl
theorem tw_447 : (Jvm.Cond.selects "DustParish$Acts" yX0_remember yX0_remember) ∈ TBG := tb_in (tk2 (List.mem_of_getElem? (i := 207) rfl)) rfl
theorem tw_448 : (Jvm.Cond.code yX0_remember cX0_remember (2 : Nat) (Option.none : Option Jvm.ClassFile.FieldType)) ∈ TBG := tb_in (tk2 (List.mem_of_getElem? (i := 208) rfl)) rfl
theorem tw_449 : (Jvm.Cond.methodLink "DustParish$Acts" (25 : Nat) yX8_copy) ∈ TBG := tb_in (tk2 (List.mem_of_getElem? (i := 209) rfl)) rfl
theorem tw_450 : (Jvm.Cond.instanceMethod yX8_copy) ∈ TBG := tb_in (tk2 (List.mem_of_getElem? (i := 210) rfl)) rfl
theorem tw_451 : (Jvm.Cond.selects "DustParish$State" yX8_copy yX8_copy) ∈ TBG := tb_in (tk2 (List.mem_of_getElem? (i := 211) rfl)) rfl
theorem tw_452 : (Jvm.Cond.code yX8_copy cX8_copy (2 : Nat) (Option.none : Option Jvm.ClassFile.FieldType)) ∈ TBG := tb_in (tk2 (List.mem_of_getElem? (i := 212) rfl)) rfl
theorem tw_453 : (Jvm.Cond.methodLink "DustParish$State" (34 : Nat) ({ cls := "java/lang/System", name := "arraycopy", desc := "(Ljava/lang/Object;ILjava/lang/Object;II)V" } : Jvm.MethodName)) ∈ TBG := tb_in (tk2 (List.mem_of_getElem? (i := 213) rfl)) rfl
theorem tw_454 : (Jvm.Cond.static ({ cls := "java/lang/System", name := "arraycopy", desc := "(Ljava/lang/Object;ILjava/lang/Object;II)V" } : Jvm.MethodName)) ∈ TBG := tb_in (tk2 (List.mem_of_getElem? (i := 214) rfl)) rfl
theorem tw_455 : (Jvm.Cond.native ({ cls := "java/lang/System", name := "arraycopy", desc := "(Ljava/lang/Object;ILjava/lang/Object;II)V" } : Jvm.MethodName)) ∈ TBG := tb_in (tk2 (List.mem_of_getElem? (i := 215) rfl)) rfl
theorem tw_456 : (Jvm.Cond.methodLink "DustParish" (214 : Nat) yX1_passMany) ∈ TBG := tb_in (tk2 (List.mem_of_getElem? (i := 216) rfl)) rfl
theorem tw_457 : (Jvm.Cond.static yX1_passMany) ∈ TBG := tb_in (tk2 (List.mem_of_getElem? (i := 217) rfl)) rfl
theorem tw_458 : (Jvm.Cond.code yX1_passMany cX1_passMany (4 : Nat) (Option.none : Option Jvm.ClassFile.FieldType)) ∈ TBG := tb_in (tk2 (List.mem_of_getElem? (i := 218) rfl)) rfl
theorem tw_459 : (Jvm.Cond.methodLink "DustParish$Course" (24 : Nat) yX1_windOf) ∈ TBG := tb_in (tk2 (List.mem_of_getElem? (i := 219) rfl)) rfl
theorem tw_460 : (Jvm.Cond.static yX1_windOf) ∈ TBG := tb_in (tk2 (List.mem_of_getElem? (i := 220) rfl)) rfl
theorem tw_461 : (Jvm.Cond.code yX1_windOf cX1_windOf (3 : Nat) (Option.some Jvm.ClassFile.FieldType.int)) ∈ TBG := tb_in (tk2 (List.mem_of_getElem? (i := 221) rfl)) rfl
theorem tw_462 : (Jvm.Cond.methodLink "DustParish$Course" (33 : Nat) yX1_pass) ∈ TBG := tb_in (tk2 (List.mem_of_getElem? (i := 222) rfl)) rfl
theorem tw_463 : (Jvm.Cond.static yX1_pass) ∈ TBG := tb_in (tk2 (List.mem_of_getElem? (i := 223) rfl)) rfl
theorem tw_464 : (Jvm.Cond.code yX1_pass cX1_pass (5 : Nat) (Option.none : Option Jvm.ClassFile.FieldType)) ∈ TBG := tb_in (tk2 (List.mem_of_getElem? (i := 224) rfl)) rfl
theorem tw_465 : (Jvm.Cond.methodLink "DustParish$Course" (40 : Nat) yX2_comesTo) ∈ TBG := tb_in (tk2 (List.mem_of_getElem? (i := 225) rfl)) rfl
theorem tw_466 : (Jvm.Cond.instanceMethod yX2_comesTo) ∈ TBG := tb_in (tk2 (List.mem_of_getElem? (i := 226) rfl)) rfl
theorem tw_467 : (Jvm.Cond.selects "DustParish$Facts" yX2_comesTo yX2_comesTo) ∈ TBG := tb_in (tk2 (List.mem_of_getElem? (i := 227) rfl)) rfl
theorem tw_468 : (Jvm.Cond.code yX2_comesTo cX2_comesTo (2 : Nat) (Option.some Jvm.ClassFile.FieldType.int)) ∈ TBG := tb_in (tk2 (List.mem_of_getElem? (i := 228) rfl)) rfl
theorem tw_469 : (Jvm.Cond.methodLink "DustParish$Course" (44 : Nat) yX8_lay) ∈ TBG := tb_in (tk2 (List.mem_of_getElem? (i := 229) rfl)) rfl
theorem tw_470 : (Jvm.Cond.instanceMethod yX8_lay) ∈ TBG := tb_in (tk2 (List.mem_of_getElem? (i := 230) rfl)) rfl
theorem tw_471 : (Jvm.Cond.selects "DustParish$State" yX8_lay yX8_lay) ∈ TBG := tb_in (tk2 (List.mem_of_getElem? (i := 231) rfl)) rfl
theorem tw_472 : (Jvm.Cond.code yX8_lay cX8_lay (3 : Nat) (Option.none : Option Jvm.ClassFile.FieldType)) ∈ TBG := tb_in (tk2 (List.mem_of_getElem? (i := 232) rfl)) rfl
theorem tw_473 : (Jvm.Cond.methodLink "DustParish$State" (47 : Nat) yJ9_min_7cf53) ∈ TBG := tb_in (tk2 (List.mem_of_getElem? (i := 233) rfl)) rfl
theorem tw_474 : (Jvm.Cond.static yJ9_min_7cf53) ∈ TBG := tb_in (tk2 (List.mem_of_getElem? (i := 234) rfl)) rfl
theorem tw_475 : (Jvm.Cond.code yJ9_min_7cf53 cJ9_min_7cf53 (2 : Nat) (Option.some Jvm.ClassFile.FieldType.int)) ∈ TBG := tb_in (tk2 (List.mem_of_getElem? (i := 235) rfl)) rfl
theorem tw_476 : (Jvm.Cond.methodLink "DustParish$Course" (51 : Nat) yX1_carry) ∈ TBG := tb_in (tk2 (List.mem_of_getElem? (i := 236) rfl)) rfl
theorem tw_477 : (Jvm.Cond.static yX1_carry) ∈ TBG := tb_in (tk2 (List.mem_of_getElem? (i := 237) rfl)) rfl
theorem tw_478 : (Jvm.Cond.code yX1_carry cX1_carry (6 : Nat) (Option.none : Option Jvm.ClassFile.FieldType)) ∈ TBG := tb_in (tk2 (List.mem_of_getElem? (i := 238) rfl)) rfl
theorem tw_479 : (Jvm.Cond.methodLink "DustParish$Course" (74 : Nat) yX2_arrives) ∈ TBG := tb_in (tk2 (List.mem_of_getElem? (i := 239) rfl)) rfl
theorem tw_480 : (Jvm.Cond.instanceMethod yX2_arrives) ∈ TBG := tb_in (tk3 (List.mem_of_getElem? (i := 0) rfl)) rfl
theorem tw_481 : (Jvm.Cond.selects "DustParish$Facts" yX2_arrives yX2_arrives) ∈ TBG := tb_in (tk3 (List.mem_of_getElem? (i := 1) rfl)) rfl
theorem tw_482 : (Jvm.Cond.code yX2_arrives cX2_arrives (3 : Nat) (Option.some Jvm.ClassFile.FieldType.int)) ∈ TBG := tb_in (tk3 (List.mem_of_getElem? (i := 2) rfl)) rfl
theorem tw_483 : (Jvm.Cond.methodLink "DustParish$Course" (55 : Nat) yX1_tithe) ∈ TBG := tb_in (tk3 (List.mem_of_getElem? (i := 3) rfl)) rfl
theorem tw_484 : (Jvm.Cond.static yX1_tithe) ∈ TBG := tb_in (tk3 (List.mem_of_getElem? (i := 4) rfl)) rfl
theorem tw_485 : (Jvm.Cond.code yX1_tithe cX1_tithe (4 : Nat) (Option.none : Option Jvm.ClassFile.FieldType)) ∈ TBG := tb_in (tk3 (List.mem_of_getElem? (i := 5) rfl)) rfl
theorem tw_486 : (Jvm.Cond.methodLink "DustParish$Course" (78 : Nat) yX1_titheOf) ∈ TBG := tb_in (tk3 (List.mem_of_getElem? (i := 6) rfl)) rfl
theorem tw_487 : (Jvm.Cond.static yX1_titheOf) ∈ TBG := tb_in (tk3 (List.mem_of_getElem? (i := 7) rfl)) rfl
theorem tw_488 : (Jvm.Cond.code yX1_titheOf cX1_titheOf (5 : Nat) (Option.some Jvm.ClassFile.FieldType.int)) ∈ TBG := tb_in (tk3 (List.mem_of_getElem? (i := 8) rfl)) rfl
theorem tw_489 : (Jvm.Cond.methodLink "DustParish$Course" (91 : Nat) yX5_isEmpty) ∈ TBG := tb_in (tk3 (List.mem_of_getElem? (i := 9) rfl)) rfl
theorem tw_490 : (Jvm.Cond.instanceMethod yX5_isEmpty) ∈ TBG := tb_in (tk3 (List.mem_of_getElem? (i := 10) rfl)) rfl
theorem tw_491 : (Jvm.Cond.selects "DustParish$Rule" yX5_isEmpty yX5_isEmpty) ∈ TBG := tb_in (tk3 (List.mem_of_getElem? (i := 11) rfl)) rfl
theorem tw_492 : (Jvm.Cond.code yX5_isEmpty cX5_isEmpty (1 : Nat) (Option.some Jvm.ClassFile.FieldType.boolean)) ∈ TBG := tb_in (tk3 (List.mem_of_getElem? (i := 12) rfl)) rfl
theorem tw_493 : (Jvm.Cond.methodLink "DustParish$Course" (109 : Nat) yX5_amount) ∈ TBG := tb_in (tk3 (List.mem_of_getElem? (i := 13) rfl)) rfl
theorem tw_494 : (Jvm.Cond.instanceMethod yX5_amount) ∈ TBG := tb_in (tk3 (List.mem_of_getElem? (i := 14) rfl)) rfl
theorem tw_495 : (Jvm.Cond.selects "DustParish$Rule" yX5_amount yX5_amount) ∈ TBG := tb_in (tk3 (List.mem_of_getElem? (i := 15) rfl)) rfl
theorem tw_496 : (Jvm.Cond.code yX5_amount cX5_amount (4 : Nat) (Option.some Jvm.ClassFile.FieldType.int)) ∈ TBG := tb_in (tk3 (List.mem_of_getElem? (i := 16) rfl)) rfl
theorem tw_497 : (Jvm.Cond.methodLink "DustParish$Rule" (25 : Nat) yX5_join) ∈ TBG := tb_in (tk3 (List.mem_of_getElem? (i := 17) rfl)) rfl
theorem tw_498 : (Jvm.Cond.static yX5_join) ∈ TBG := tb_in (tk3 (List.mem_of_getElem? (i := 18) rfl)) rfl
theorem tw_499 : (Jvm.Cond.code yX5_join cX5_join (3 : Nat) (Option.some Jvm.ClassFile.FieldType.int)) ∈ TBG := tb_in (tk3 (List.mem_of_getElem? (i := 19) rfl)) rfl
theorem tw_500 : (Jvm.Cond.methodLink "DustParish$Course" (113 : Nat) yJ9_min_7cf53) ∈ TBG := tb_in (tk3 (List.mem_of_getElem? (i := 20) rfl)) rfl
theorem tw_501 : (Jvm.Cond.methodLink "DustParish$Course" (118 : Nat) yJ9_max_7cf53) ∈ TBG := tb_in (tk3 (List.mem_of_getElem? (i := 21) rfl)) rfl
theorem tw_502 : (Jvm.Cond.static yJ9_max_7cf53) ∈ TBG := tb_in (tk3 (List.mem_of_getElem? (i := 22) rfl)) rfl
theorem tw_503 : (Jvm.Cond.code yJ9_max_7cf53 cJ9_max_7cf53 (2 : Nat) (Option.some Jvm.ClassFile.FieldType.int)) ∈ TBG := tb_in (tk3 (List.mem_of_getElem? (i := 23) rfl)) rfl
theorem tw_504 : (Jvm.Cond.methodLink "DustParishLaw" (156 : Nat) yX10_plan) ∈ TBG := tb_in (tk3 (List.mem_of_getElem? (i := 24) rfl)) rfl
theorem tw_505 : (Jvm.Cond.instanceMethod yX10_plan) ∈ TBG := tb_in (tk3 (List.mem_of_getElem? (i := 25) rfl)) rfl
theorem tw_506 : (Jvm.Cond.selects "DustParish" yX10_plan yX10_plan) ∈ TBG := tb_in (tk3 (List.mem_of_getElem? (i := 26) rfl)) rfl
theorem tw_507 : (Jvm.Cond.code yX10_plan cX10_plan (5 : Nat) (Option.some Jvm.ClassFile.FieldType.int)) ∈ TBG := tb_in (tk3 (List.mem_of_getElem? (i := 27) rfl)) rfl
theorem tw_508 : (Jvm.Cond.methodLink "DustParishLaw" (160 : Nat) yX10_undo) ∈ TBG := tb_in (tk3 (List.mem_of_getElem? (i := 28) rfl)) rfl
theorem tw_509 : (Jvm.Cond.instanceMethod yX10_undo) ∈ TBG := tb_in (tk3 (List.mem_of_getElem? (i := 29) rfl)) rfl
theorem tw_510 : (Jvm.Cond.selects "DustParish" yX10_undo yX10_undo) ∈ TBG := tb_in (tk3 (List.mem_of_getElem? (i := 30) rfl)) rfl
theorem tw_511 : (Jvm.Cond.code yX10_undo cX10_undo (1 : Nat) (Option.some Jvm.ClassFile.FieldType.int)) ∈ TBG := tb_in (tk3 (List.mem_of_getElem? (i := 31) rfl)) rfl
theorem tw_512 : (Jvm.Cond.methodLink "DustParish" (232 : Nat) yX0_giveBack) ∈ TBG := tb_in (tk3 (List.mem_of_getElem? (i := 32) rfl)) rfl
theorem tw_513 : (Jvm.Cond.instanceMethod yX0_giveBack) ∈ TBG := tb_in (tk3 (List.mem_of_getElem? (i := 33) rfl)) rfl
theorem tw_514 : (Jvm.Cond.selects "DustParish$Acts" yX0_giveBack yX0_giveBack) ∈ TBG := tb_in (tk3 (List.mem_of_getElem? (i := 34) rfl)) rfl
theorem tw_515 : (Jvm.Cond.code yX0_giveBack cX0_giveBack (2 : Nat) (Option.none : Option Jvm.ClassFile.FieldType)) ∈ TBG := tb_in (tk3 (List.mem_of_getElem? (i := 35) rfl)) rfl
theorem tw_516 : (Jvm.Cond.methodLink "DustParishLaw" (173 : Nat) yX10_heresy) ∈ TBG := tb_in (tk3 (List.mem_of_getElem? (i := 36) rfl)) rfl
theorem tw_517 : (Jvm.Cond.instanceMethod yX10_heresy) ∈ TBG := tb_in (tk3 (List.mem_of_getElem? (i := 37) rfl)) rfl
theorem tw_518 : (Jvm.Cond.selects "DustParish" yX10_heresy yX10_heresy) ∈ TBG := tb_in (tk3 (List.mem_of_getElem? (i := 38) rfl)) rfl
theorem tw_519 : (Jvm.Cond.code yX10_heresy cX10_heresy (2 : Nat) (Option.some Jvm.ClassFile.FieldType.int)) ∈ TBG := tb_in (tk3 (List.mem_of_getElem? (i := 39) rfl)) rfl
theorem tw_520 : (Jvm.Cond.methodLink "DustParish" (241 : Nat) yX8_copy) ∈ TBG := tb_in (tk3 (List.mem_of_getElem? (i := 40) rfl)) rfl
theorem tw_521 : (Jvm.Cond.methodLink "DustParish" (140 : Nat) yX1_heretics) ∈ TBG := tb_in (tk3 (List.mem_of_getElem? (i := 41) rfl)) rfl
theorem tw_522 : (Jvm.Cond.static yX1_heretics) ∈ TBG := tb_in (tk3 (List.mem_of_getElem? (i := 42) rfl)) rfl
theorem tw_523 : (Jvm.Cond.code yX1_heretics cX1_heretics (4 : Nat) (Option.some Jvm.ClassFile.FieldType.int)) ∈ TBG := tb_in (tk3 (List.mem_of_getElem? (i := 43) rfl)) rfl
theorem tw_524 : (Jvm.Cond.methodLink "DustParish$Course" (121 : Nat) yX1_isUnclean) ∈ TBG := tb_in (tk3 (List.mem_of_getElem? (i := 44) rfl)) rfl
theorem tw_525 : (Jvm.Cond.static yX1_isUnclean) ∈ TBG := tb_in (tk3 (List.mem_of_getElem? (i := 45) rfl)) rfl
theorem tw_526 : (Jvm.Cond.code yX1_isUnclean cX1_isUnclean (3 : Nat) (Option.some Jvm.ClassFile.FieldType.boolean)) ∈ TBG := tb_in (tk3 (List.mem_of_getElem? (i := 46) rfl)) rfl
theorem tw_527 : (Jvm.Cond.methodLink "DustParishLaw" (180 : Nat) yX10_alms) ∈ TBG := tb_in (tk3 (List.mem_of_getElem? (i := 47) rfl)) rfl
theorem tw_528 : (Jvm.Cond.instanceMethod yX10_alms) ∈ TBG := tb_in (tk3 (List.mem_of_getElem? (i := 48) rfl)) rfl
theorem tw_529 : (Jvm.Cond.selects "DustParish" yX10_alms yX10_alms) ∈ TBG := tb_in (tk3 (List.mem_of_getElem? (i := 49) rfl)) rfl
theorem tw_530 : (Jvm.Cond.code yX10_alms cX10_alms (3 : Nat) (Option.some Jvm.ClassFile.FieldType.int)) ∈ TBG := tb_in (tk3 (List.mem_of_getElem? (i := 50) rfl)) rfl
theorem tw_531 : (Jvm.Cond.methodLink "DustParish" (271 : Nat) yX1_isUnclean) ∈ TBG := tb_in (tk3 (List.mem_of_getElem? (i := 51) rfl)) rfl
theorem tw_532 : (Jvm.Cond.methodLink "DustParishLaw" (220 : Nat) yX10_forget) ∈ TBG := tb_in (tk3 (List.mem_of_getElem? (i := 52) rfl)) rfl
theorem tw_533 : (Jvm.Cond.instanceMethod yX10_forget) ∈ TBG := tb_in (tk3 (List.mem_of_getElem? (i := 53) rfl)) rfl
theorem tw_534 : (Jvm.Cond.selects "DustParish" yX10_forget yX10_forget) ∈ TBG := tb_in (tk3 (List.mem_of_getElem? (i := 54) rfl)) rfl
theorem tw_535 : (Jvm.Cond.code yX10_forget cX10_forget (1 : Nat) (Option.none : Option Jvm.ClassFile.FieldType)) ∈ TBG := tb_in (tk3 (List.mem_of_getElem? (i := 55) rfl)) rfl
theorem tw_536 : (Jvm.Cond.methodLink "DustParishLaw" (230 : Nat) yX10_image) ∈ TBG := tb_in (tk3 (List.mem_of_getElem? (i := 56) rfl)) rfl
theorem tw_537 : (Jvm.Cond.instanceMethod yX10_image) ∈ TBG := tb_in (tk3 (List.mem_of_getElem? (i := 57) rfl)) rfl
theorem tw_538 : (Jvm.Cond.selects "DustParish" yX10_image yX10_image) ∈ TBG := tb_in (tk3 (List.mem_of_getElem? (i := 58) rfl)) rfl
theorem tw_539 : (Jvm.Cond.code yX10_image cX10_image (1 : Nat) (Option.none : Option Jvm.ClassFile.FieldType)) ∈ TBG := tb_in (tk3 (List.mem_of_getElem? (i := 59) rfl)) rfl
theorem tw_540 : (Jvm.Cond.methodLink "DustParish" (349 : Nat) yX3_copy) ∈ TBG := tb_in (tk3 (List.mem_of_getElem? (i := 60) rfl)) rfl
theorem tw_541 : (Jvm.Cond.instanceMethod yX3_copy) ∈ TBG := tb_in (tk3 (List.mem_of_getElem? (i := 61) rfl)) rfl
theorem tw_542 : (Jvm.Cond.selects "DustParish$Present" yX3_copy yX3_copy) ∈ TBG := tb_in (tk3 (List.mem_of_getElem? (i := 62) rfl)) rfl
theorem tw_543 : (Jvm.Cond.code yX3_copy cX3_copy (2 : Nat) (Option.none : Option Jvm.ClassFile.FieldType)) ∈ TBG := tb_in (tk3 (List.mem_of_getElem? (i := 63) rfl)) rfl
theorem tw_544 : (Jvm.Cond.methodLink "DustParish$Present" (43 : Nat) yX8_copy) ∈ TBG := tb_in (tk3 (List.mem_of_getElem? (i := 64) rfl)) rfl
theorem tw_545 : (Jvm.Cond.methodLink "DustParish$Present" (47 : Nat) yX0_copy) ∈ TBG := tb_in (tk3 (List.mem_of_getElem? (i := 65) rfl)) rfl
theorem tw_546 : (Jvm.Cond.instanceMethod yX0_copy) ∈ TBG := tb_in (tk3 (List.mem_of_getElem? (i := 66) rfl)) rfl
theorem tw_547 : (Jvm.Cond.selects "DustParish$Acts" yX0_copy yX0_copy) ∈ TBG := tb_in (tk3 (List.mem_of_getElem? (i := 67) rfl)) rfl
theorem tw_548 : (Jvm.Cond.code yX0_copy cX0_copy (3 : Nat) (Option.none : Option Jvm.ClassFile.FieldType)) ∈ TBG := tb_in (tk3 (List.mem_of_getElem? (i := 68) rfl)) rfl
theorem tw_549 : (Jvm.Cond.methodLink "DustParish$Present" (50 : Nat) yX7_copy) ∈ TBG := tb_in (tk3 (List.mem_of_getElem? (i := 69) rfl)) rfl
theorem tw_550 : (Jvm.Cond.instanceMethod yX7_copy) ∈ TBG := tb_in (tk3 (List.mem_of_getElem? (i := 70) rfl)) rfl
theorem tw_551 : (Jvm.Cond.selects "DustParish$Sights" yX7_copy yX7_copy) ∈ TBG := tb_in (tk3 (List.mem_of_getElem? (i := 71) rfl)) rfl
theorem tw_552 : (Jvm.Cond.code yX7_copy cX7_copy (2 : Nat) (Option.none : Option Jvm.ClassFile.FieldType)) ∈ TBG := tb_in (tk3 (List.mem_of_getElem? (i := 72) rfl)) rfl
theorem tw_553 : (Jvm.Cond.methodLink "DustParish$Sights" (36 : Nat) ({ cls := "java/lang/System", name := "arraycopy", desc := "(Ljava/lang/Object;ILjava/lang/Object;II)V" } : Jvm.MethodName)) ∈ TBG := tb_in (tk3 (List.mem_of_getElem? (i := 73) rfl)) rfl
theorem tw_554 : (Jvm.Cond.methodLink "DustParish$Present" (53 : Nat) ({ cls := "java/lang/System", name := "arraycopy", desc := "(Ljava/lang/Object;ILjava/lang/Object;II)V" } : Jvm.MethodName)) ∈ TBG := tb_in (tk3 (List.mem_of_getElem? (i := 74) rfl)) rfl
theorem tw_555 : (Jvm.Cond.methodLink "DustParishLaw" (234 : Nat) yX10_restore) ∈ TBG := tb_in (tk3 (List.mem_of_getElem? (i := 75) rfl)) rfl
theorem tw_556 : (Jvm.Cond.instanceMethod yX10_restore) ∈ TBG := tb_in (tk3 (List.mem_of_getElem? (i := 76) rfl)) rfl
theorem tw_557 : (Jvm.Cond.selects "DustParish" yX10_restore yX10_restore) ∈ TBG := tb_in (tk3 (List.mem_of_getElem? (i := 77) rfl)) rfl
theorem tw_558 : (Jvm.Cond.code yX10_restore cX10_restore (1 : Nat) (Option.some Jvm.ClassFile.FieldType.boolean)) ∈ TBG := tb_in (tk3 (List.mem_of_getElem? (i := 78) rfl)) rfl
theorem tw_559 : (Jvm.Cond.methodLink "DustParishLaw" (109 : Nat) yL_parish) ∈ TBG := tb_in (tk3 (List.mem_of_getElem? (i := 79) rfl)) rfl
theorem tw_560 : (Jvm.Cond.static yL_parish) ∈ TBG := tb_in (tk3 (List.mem_of_getElem? (i := 80) rfl)) rfl
theorem tw_561 : (Jvm.Cond.codeWith yL_parish method_3_code (4 : Nat) (Option.some Jvm.ClassFile.FieldType.int) [((0 : Nat), (9 : Nat), (12 : Nat), (13 : Nat))]) ∈ TBG := tb_in (tk3 (List.mem_of_getElem? (i := 81) rfl)) rfl
theorem tw_562 : (Jvm.Cond.classLink "DustParishLaw" (13 : Nat) "java/lang/IllegalArgumentException") ∈ TBG := tb_in (tk3 (List.mem_of_getElem? (i := 82) rfl)) rfl
theorem tw_563 : (Jvm.Cond.methodLink "DustParishLaw" (7 : Nat) yX10_parish) ∈ TBG := tb_in (tk3 (List.mem_of_getElem? (i := 83) rfl)) rfl
theorem tw_564 : (Jvm.Cond.instanceMethod yX10_parish) ∈ TBG := tb_in (tk3 (List.mem_of_getElem? (i := 84) rfl)) rfl
theorem tw_565 : (Jvm.Cond.selects "DustParish" yX10_parish yX10_parish) ∈ TBG := tb_in (tk3 (List.mem_of_getElem? (i := 85) rfl)) rfl
theorem tw_566 : (Jvm.Cond.code yX10_parish cX10_parish (4 : Nat) (Option.some Jvm.ClassFile.FieldType.int)) ∈ TBG := tb_in (tk3 (List.mem_of_getElem? (i := 86) rfl)) rfl
theorem tw_567 : (Jvm.Cond.classLink "DustParish" (83 : Nat) "java/lang/IllegalArgumentException") ∈ TBG := tb_in (tk3 (List.mem_of_getElem? (i := 87) rfl)) rfl
theorem tw_568 : (Jvm.Cond.instantiable "java/lang/IllegalArgumentException" (6 : Nat)) ∈ TBG := tb_in (tk3 (List.mem_of_getElem? (i := 88) rfl)) rfl
theorem tw_576 : (Jvm.Cond.selects "java/lang/IllegalArgumentException" ({ cls := "java/lang/Throwable", name := "fillInStackTrace", desc := "(I)Ljava/lang/Throwable;" } : Jvm.MethodName) ({ cls := "java/lang/Throwable", name := "fillInStackTrace", desc := "(I)Ljava/lang/Throwable;" } : Jvm.MethodName)) ∈ TBG := tb_in (tk3 (List.mem_of_getElem? (i := 96) rfl)) rfl
theorem tw_577 : (Jvm.Cond.selects "java/lang/IllegalArgumentException" ({ cls := "java/lang/Throwable", name := "fillInStackTrace", desc := "()Ljava/lang/Throwable;" } : Jvm.MethodName) ({ cls := "java/lang/Throwable", name := "fillInStackTrace", desc := "()Ljava/lang/Throwable;" } : Jvm.MethodName)) ∈ TBG := tb_in (tk3 (List.mem_of_getElem? (i := 97) rfl)) rfl
theorem tw_578 : (Jvm.Cond.lays "java/lang/IllegalArgumentException" "java/lang/Throwable" "cause" "Ljava/lang/Throwable;") ∈ TBG := tb_in (tk3 (List.mem_of_getElem? (i := 98) rfl)) rfl
theorem tw_579 : (Jvm.Cond.lays "java/lang/Throwable" "java/lang/Throwable" "cause" "Ljava/lang/Throwable;") ∈ TBG := tb_in (tk3 (List.mem_of_getElem? (i := 99) rfl)) rfl
theorem tw_580 : (Jvm.Cond.lays "java/lang/IllegalArgumentException" "java/lang/Throwable" "stackTrace" "[Ljava/lang/StackTraceElement;") ∈ TBG := tb_in (tk3 (List.mem_of_getElem? (i := 100) rfl)) rfl
theorem tw_581 : (Jvm.Cond.lays "java/lang/Throwable" "java/lang/Throwable" "stackTrace" "[Ljava/lang/StackTraceElement;") ∈ TBG := tb_in (tk3 (List.mem_of_getElem? (i := 101) rfl)) rfl
theorem tw_582 : (Jvm.Cond.lays "java/lang/IllegalArgumentException" "java/lang/Throwable" "suppressedExceptions" "Ljava/util/List;") ∈ TBG := tb_in (tk3 (List.mem_of_getElem? (i := 102) rfl)) rfl
theorem tw_583 : (Jvm.Cond.lays "java/lang/Throwable" "java/lang/Throwable" "suppressedExceptions" "Ljava/util/List;") ∈ TBG := tb_in (tk3 (List.mem_of_getElem? (i := 103) rfl)) rfl
theorem tw_584 : (Jvm.Cond.lays "java/lang/IllegalArgumentException" "java/lang/Throwable" "detailMessage" "Ljava/lang/String;") ∈ TBG := tb_in (tk3 (List.mem_of_getElem? (i := 104) rfl)) rfl
theorem tw_585 : (Jvm.Cond.lays "java/lang/Throwable" "java/lang/Throwable" "detailMessage" "Ljava/lang/String;") ∈ TBG := tb_in (tk3 (List.mem_of_getElem? (i := 105) rfl)) rfl
theorem tw_586 : (Jvm.Cond.lays "java/lang/IllegalArgumentException" "java/lang/Throwable" "backtrace" "Ljava/lang/Object;") ∈ TBG := tb_in (tk3 (List.mem_of_getElem? (i := 106) rfl)) rfl
theorem tw_587 : (Jvm.Cond.lays "java/lang/Throwable" "java/lang/Throwable" "backtrace" "Ljava/lang/Object;") ∈ TBG := tb_in (tk3 (List.mem_of_getElem? (i := 107) rfl)) rfl
theorem tw_588 : (Jvm.Cond.fieldLink "java/lang/Throwable" (198 : Nat) "java/lang/Throwable" "backtrace" "Ljava/lang/Object;") ∈ TBG := tb_in (tk3 (List.mem_of_getElem? (i := 108) rfl)) rfl
theorem tw_589 : (Jvm.Cond.superclass "java/lang/Throwable" "java/lang/Object") ∈ TBG := tb_in (tk3 (List.mem_of_getElem? (i := 109) rfl)) rfl
theorem tw_590 : (Jvm.Cond.instanceMethod ({ cls := "java/lang/Throwable", name := "<init>", desc := "()V" } : Jvm.MethodName)) ∈ TBG := tb_in (tk3 (List.mem_of_getElem? (i := 110) rfl)) rfl
theorem tw_591 : (Jvm.Cond.code ({ cls := "java/lang/Throwable", name := "<init>", desc := "()V" } : Jvm.MethodName) prog_26_method_1_code (1 : Nat) (Option.none : Option Jvm.ClassFile.FieldType)) ∈ TBG := tb_in (tk3 (List.mem_of_getElem? (i := 111) rfl)) rfl
theorem tw_592 : (Jvm.Cond.methodLink "java/lang/Throwable" (1 : Nat) ({ cls := "java/lang/Object", name := "<init>", desc := "()V" } : Jvm.MethodName)) ∈ TBG := tb_in (tk3 (List.mem_of_getElem? (i := 112) rfl)) rfl
theorem tw_593 : (Jvm.Cond.fieldLink "java/lang/Throwable" (13 : Nat) "java/lang/Throwable" "UNASSIGNED_STACK" "[Ljava/lang/StackTraceElement;") ∈ TBG := tb_in (tk3 (List.mem_of_getElem? (i := 113) rfl)) rfl
theorem tw_595 : (Jvm.Cond.fieldLink "java/lang/Throwable" (20 : Nat) "java/lang/Throwable" "SUPPRESSED_SENTINEL" "Ljava/util/List;") ∈ TBG := tb_in (tk3 (List.mem_of_getElem? (i := 115) rfl)) rfl
theorem tw_597 : (Jvm.Cond.methodLink "java/lang/Throwable" (27 : Nat) ({ cls := "java/lang/Throwable", name := "fillInStackTrace", desc := "()Ljava/lang/Throwable;" } : Jvm.MethodName)) ∈ TBG := tb_in (tk3 (List.mem_of_getElem? (i := 117) rfl)) rfl
theorem tw_598 : (Jvm.Cond.instanceMethod ({ cls := "java/lang/Throwable", name := "fillInStackTrace", desc := "()Ljava/lang/Throwable;" } : Jvm.MethodName)) ∈ TBG := tb_in (tk3 (List.mem_of_getElem? (i := 118) rfl)) rfl
theorem tw_599 : (Jvm.Cond.sameMethod "java/lang/Throwable" "java/lang/Throwable" "fillInStackTrace" "()Ljava/lang/Throwable;") ∈ TBG := tb_in (tk3 (List.mem_of_getElem? (i := 119) rfl)) rfl
theorem tw_600 : (Jvm.Cond.selects "java/util/NoSuchElementException" ({ cls := "java/lang/Throwable", name := "fillInStackTrace", desc := "()Ljava/lang/Throwable;" } : Jvm.MethodName) ({ cls := "java/lang/Throwable", name := "fillInStackTrace", desc := "()Ljava/lang/Throwable;" } : Jvm.MethodName)) ∈ TBG := tb_in (tk3 (List.mem_of_getElem? (i := 120) rfl)) rfl
theorem tw_601 : (Jvm.Cond.codeSync ({ cls := "java/lang/Throwable", name := "fillInStackTrace", desc := "()Ljava/lang/Throwable;" } : Jvm.MethodName) prog_26_method_18_code (1 : Nat) (Option.some (Jvm.ClassFile.FieldType.object "java/lang/Throwable"))) ∈ TBG := tb_in (tk3 (List.mem_of_getElem? (i := 121) rfl)) rfl
theorem tw_602 : (Jvm.Cond.methodLink "java/lang/Throwable" (202 : Nat) ({ cls := "java/lang/Throwable", name := "fillInStackTrace", desc := "(I)Ljava/lang/Throwable;" } : Jvm.MethodName)) ∈ TBG := tb_in (tk3 (List.mem_of_getElem? (i := 122) rfl)) rfl
theorem tw_604 : (Jvm.Cond.instanceMethod ({ cls := "java/lang/Throwable", name := "fillInStackTrace", desc := "(I)Ljava/lang/Throwable;" } : Jvm.MethodName)) ∈ TBG := tb_in (tk3 (List.mem_of_getElem? (i := 124) rfl)) rfl
theorem tw_605 : (Jvm.Cond.instantiable "java/lang/Throwable" (6 : Nat)) ∈ TBG := tb_in (tk3 (List.mem_of_getElem? (i := 125) rfl)) rfl
theorem tw_606 : (Jvm.Cond.native ({ cls := "java/lang/Throwable", name := "fillInStackTrace", desc := "(I)Ljava/lang/Throwable;" } : Jvm.MethodName)) ∈ TBG := tb_in (tk3 (List.mem_of_getElem? (i := 126) rfl)) rfl
theorem tw_607 : (Jvm.Cond.methodLink "DustParish" (85 : Nat) ({ cls := "java/lang/IllegalArgumentException", name := "<init>", desc := "()V" } : Jvm.MethodName)) ∈ TBG := tb_in (tk3 (List.mem_of_getElem? (i := 127) rfl)) rfl
theorem tw_608 : (Jvm.Cond.instanceMethod ({ cls := "java/lang/IllegalArgumentException", name := "<init>", desc := "()V" } : Jvm.MethodName)) ∈ TBG := tb_in (tk3 (List.mem_of_getElem? (i := 128) rfl)) rfl
theorem tw_609 : (Jvm.Cond.code ({ cls := "java/lang/IllegalArgumentException", name := "<init>", desc := "()V" } : Jvm.MethodName) prog_19_method_1_code (1 : Nat) (Option.none : Option Jvm.ClassFile.FieldType)) ∈ TBG := tb_in (tk3 (List.mem_of_getElem? (i := 129) rfl)) rfl
theorem tw_610 : (Jvm.Cond.methodLink "java/lang/IllegalArgumentException" (1 : Nat) ({ cls := "java/lang/RuntimeException", name := "<init>", desc := "()V" } : Jvm.MethodName)) ∈ TBG := tb_in (tk3 (List.mem_of_getElem? (i := 130) rfl)) rfl
theorem tw_611 : (Jvm.Cond.instanceMethod ({ cls := "java/lang/RuntimeException", name := "<init>", desc := "()V" } : Jvm.MethodName)) ∈ TBG := tb_in (tk3 (List.mem_of_getElem? (i := 131) rfl)) rfl
theorem tw_612 : (Jvm.Cond.code ({ cls := "java/lang/RuntimeException", name := "<init>", desc := "()V" } : Jvm.MethodName) prog_21_method_1_code (1 : Nat) (Option.none : Option Jvm.ClassFile.FieldType)) ∈ TBG := tb_in (tk3 (List.mem_of_getElem? (i := 132) rfl)) rfl
theorem tw_613 : (Jvm.Cond.methodLink "java/lang/RuntimeException" (1 : Nat) ({ cls := "java/lang/Exception", name := "<init>", desc := "()V" } : Jvm.MethodName)) ∈ TBG := tb_in (tk3 (List.mem_of_getElem? (i := 133) rfl)) rfl
theorem tw_614 : (Jvm.Cond.instanceMethod ({ cls := "java/lang/Exception", name := "<init>", desc := "()V" } : Jvm.MethodName)) ∈ TBG := tb_in (tk3 (List.mem_of_getElem? (i := 134) rfl)) rfl
theorem tw_615 : (Jvm.Cond.code ({ cls := "java/lang/Exception", name := "<init>", desc := "()V" } : Jvm.MethodName) prog_18_method_1_code (1 : Nat) (Option.none : Option Jvm.ClassFile.FieldType)) ∈ TBG := tb_in (tk3 (List.mem_of_getElem? (i := 135) rfl)) rfl
theorem tw_616 : (Jvm.Cond.methodLink "java/lang/Exception" (1 : Nat) ({ cls := "java/lang/Throwable", name := "<init>", desc := "()V" } : Jvm.MethodName)) ∈ TBG := tb_in (tk3 (List.mem_of_getElem? (i := 136) rfl)) rfl
theorem tw_617 : (Jvm.Cond.fieldLink "java/lang/Throwable" (198 : Nat) "java/lang/Throwable" "backtrace" "Ljava/lang/Object;") ∈ TBG := tb_in (tk3 (List.mem_of_getElem? (i := 137) rfl)) rfl
theorem tw_618 : (Jvm.Cond.fieldLink "java/lang/Throwable" (7 : Nat) "java/lang/Throwable" "cause" "Ljava/lang/Throwable;") ∈ TBG := tb_in (tk3 (List.mem_of_getElem? (i := 138) rfl)) rfl
theorem tw_619 : (Jvm.Cond.fieldLink "java/lang/Throwable" (17 : Nat) "java/lang/Throwable" "stackTrace" "[Ljava/lang/StackTraceElement;") ∈ TBG := tb_in (tk3 (List.mem_of_getElem? (i := 139) rfl)) rfl
theorem tw_620 : (Jvm.Cond.fieldLink "java/lang/Throwable" (24 : Nat) "java/lang/Throwable" "suppressedExceptions" "Ljava/util/List;") ∈ TBG := tb_in (tk3 (List.mem_of_getElem? (i := 140) rfl)) rfl
theorem tw_621 : (Jvm.Cond.soleField "java/lang/Throwable" "backtrace") ∈ TBG := tb_in (tk3 (List.mem_of_getElem? (i := 141) rfl)) rfl
theorem tw_622 : (Jvm.Cond.soleField "java/lang/Throwable" "detailMessage") ∈ TBG := tb_in (tk3 (List.mem_of_getElem? (i := 142) rfl)) rfl
theorem tw_623 : (Jvm.Cond.soleField "java/lang/Throwable" "cause") ∈ TBG := tb_in (tk3 (List.mem_of_getElem? (i := 143) rfl)) rfl
theorem tw_624 : (Jvm.Cond.soleField "java/lang/Throwable" "stackTrace") ∈ TBG := tb_in (tk3 (List.mem_of_getElem? (i := 144) rfl)) rfl
theorem tw_625 : (Jvm.Cond.lays "java/lang/IllegalArgumentException" "java/lang/Throwable" "depth" "I") ∈ TBG := tb_in (tk3 (List.mem_of_getElem? (i := 145) rfl)) rfl
theorem tw_626 : (Jvm.Cond.soleField "java/lang/Throwable" "depth") ∈ TBG := tb_in (tk3 (List.mem_of_getElem? (i := 146) rfl)) rfl
theorem tw_627 : (Jvm.Cond.soleField "java/lang/Throwable" "suppressedExceptions") ∈ TBG := tb_in (tk3 (List.mem_of_getElem? (i := 147) rfl)) rfl
theorem tw_628 : (Jvm.Cond.superclass "java/lang/IllegalArgumentException" "java/lang/RuntimeException") ∈ TBG := tb_in (tk3 (List.mem_of_getElem? (i := 148) rfl)) rfl
theorem tw_629 : (Jvm.Cond.methodLink "DustParish" (86 : Nat) yX4_read) ∈ TBG := tb_in (tk3 (List.mem_of_getElem? (i := 149) rfl)) rfl
theorem tw_630 : (Jvm.Cond.instanceMethod yX4_read) ∈ TBG := tb_in (tk3 (List.mem_of_getElem? (i := 150) rfl)) rfl
theorem tw_631 : (Jvm.Cond.selects "DustParish$Reader" yX4_read yX4_read) ∈ TBG := tb_in (tk3 (List.mem_of_getElem? (i := 151) rfl)) rfl
theorem tw_632 : (Jvm.Cond.code yX4_read cX4_read (5 : Nat) (Option.some Jvm.ClassFile.FieldType.int)) ∈ TBG := tb_in (tk3 (List.mem_of_getElem? (i := 152) rfl)) rfl
theorem tw_633 : (Jvm.Cond.methodLink "DustParish$Reader" (59 : Nat) yX2_clear) ∈ TBG := tb_in (tk3 (List.mem_of_getElem? (i := 153) rfl)) rfl
theorem tw_634 : (Jvm.Cond.methodLink "DustParish$Reader" (62 : Nat) yX9_begin) ∈ TBG := tb_in (tk3 (List.mem_of_getElem? (i := 154) rfl)) rfl
theorem tw_635 : (Jvm.Cond.instanceMethod yX9_begin) ∈ TBG := tb_in (tk3 (List.mem_of_getElem? (i := 155) rfl)) rfl
theorem tw_636 : (Jvm.Cond.selects "DustParish$Tokens" yX9_begin yX9_begin) ∈ TBG := tb_in (tk3 (List.mem_of_getElem? (i := 156) rfl)) rfl
theorem tw_637 : (Jvm.Cond.code yX9_begin cX9_begin (2 : Nat) (Option.none : Option Jvm.ClassFile.FieldType)) ∈ TBG := tb_in (tk3 (List.mem_of_getElem? (i := 157) rfl)) rfl
theorem tw_638 : (Jvm.Cond.methodLink "DustParish$Tokens" (33 : Nat) yJ9_min_7cf53) ∈ TBG := tb_in (tk3 (List.mem_of_getElem? (i := 158) rfl)) rfl
theorem tw_639 : (Jvm.Cond.methodLink "DustParish$Tokens" (39 : Nat) yX9_step) ∈ TBG := tb_in (tk3 (List.mem_of_getElem? (i := 159) rfl)) rfl
theorem tw_640 : (Jvm.Cond.instanceMethod yX9_step) ∈ TBG := tb_in (tk3 (List.mem_of_getElem? (i := 160) rfl)) rfl
theorem tw_641 : (Jvm.Cond.selects "DustParish$Tokens" yX9_step yX9_step) ∈ TBG := tb_in (tk3 (List.mem_of_getElem? (i := 161) rfl)) rfl
theorem tw_642 : (Jvm.Cond.code yX9_step cX9_step (1 : Nat) (Option.none : Option Jvm.ClassFile.FieldType)) ∈ TBG := tb_in (tk3 (List.mem_of_getElem? (i := 162) rfl)) rfl
theorem tw_643 : (Jvm.Cond.methodLink "DustParish$Tokens" (42 : Nat) yX9_isBlank) ∈ TBG := tb_in (tk3 (List.mem_of_getElem? (i := 163) rfl)) rfl
theorem tw_644 : (Jvm.Cond.static yX9_isBlank) ∈ TBG := tb_in (tk3 (List.mem_of_getElem? (i := 164) rfl)) rfl
theorem tw_645 : (Jvm.Cond.code yX9_isBlank cX9_isBlank (1 : Nat) (Option.some Jvm.ClassFile.FieldType.boolean)) ∈ TBG := tb_in (tk3 (List.mem_of_getElem? (i := 165) rfl)) rfl
theorem tw_646 : (Jvm.Cond.methodLink "DustParish$Tokens" (46 : Nat) yX9_isLetter) ∈ TBG := tb_in (tk3 (List.mem_of_getElem? (i := 166) rfl)) rfl
theorem tw_647 : (Jvm.Cond.static yX9_isLetter) ∈ TBG := tb_in (tk3 (List.mem_of_getElem? (i := 167) rfl)) rfl
theorem tw_648 : (Jvm.Cond.code yX9_isLetter cX9_isLetter (1 : Nat) (Option.some Jvm.ClassFile.FieldType.boolean)) ∈ TBG := tb_in (tk3 (List.mem_of_getElem? (i := 168) rfl)) rfl
theorem tw_649 : (Jvm.Cond.methodLink "DustParish$Tokens" (49 : Nat) yX9_isDigit) ∈ TBG := tb_in (tk3 (List.mem_of_getElem? (i := 169) rfl)) rfl
theorem tw_650 : (Jvm.Cond.static yX9_isDigit) ∈ TBG := tb_in (tk3 (List.mem_of_getElem? (i := 170) rfl)) rfl
theorem tw_651 : (Jvm.Cond.code yX9_isDigit cX9_isDigit (1 : Nat) (Option.some Jvm.ClassFile.FieldType.boolean)) ∈ TBG := tb_in (tk3 (List.mem_of_getElem? (i := 171) rfl)) rfl
theorem tw_652 : (Jvm.Cond.methodLink "DustParish$Tokens" (52 : Nat) yX9_takeNumber) ∈ TBG := tb_in (tk3 (List.mem_of_getElem? (i := 172) rfl)) rfl
theorem tw_654 : (Jvm.Cond.instanceMethod yX9_takeNumber) ∈ TBG := tb_in (tk3 (List.mem_of_getElem? (i := 174) rfl)) rfl
theorem tw_655 : (Jvm.Cond.code yX9_takeNumber cX9_takeNumber (1 : Nat) (Option.none : Option Jvm.ClassFile.FieldType)) ∈ TBG := tb_in (tk3 (List.mem_of_getElem? (i := 175) rfl)) rfl
theorem tw_657 : (Jvm.Cond.methodLink "DustParish$Tokens" (57 : Nat) yJ0_indexOf_0f7a4) ∈ TBG := tb_in (tk3 (List.mem_of_getElem? (i := 177) rfl)) rfl
theorem tw_658 : (Jvm.Cond.instanceMethod yJ0_indexOf_0f7a4) ∈ TBG := tb_in (tk3 (List.mem_of_getElem? (i := 178) rfl)) rfl
theorem tw_659 : (Jvm.Cond.selects "java/lang/String" yJ0_indexOf_0f7a4 yJ0_indexOf_0f7a4) ∈ TBG := tb_in (tk3 (List.mem_of_getElem? (i := 179) rfl)) rfl
theorem tw_660 : (Jvm.Cond.code yJ0_indexOf_0f7a4 cJ0_indexOf_0f7a4 (2 : Nat) (Option.some Jvm.ClassFile.FieldType.int)) ∈ TBG := tb_in (tk3 (List.mem_of_getElem? (i := 180) rfl)) rfl
theorem tw_661 : (Jvm.Cond.methodLink "java/lang/String" (633 : Nat) yJ0_indexOf_7cf53) ∈ TBG := tb_in (tk3 (List.mem_of_getElem? (i := 181) rfl)) rfl
theorem tw_662 : (Jvm.Cond.instanceMethod yJ0_indexOf_7cf53) ∈ TBG := tb_in (tk3 (List.mem_of_getElem? (i := 182) rfl)) rfl
theorem tw_663 : (Jvm.Cond.selects "java/lang/String" yJ0_indexOf_7cf53 yJ0_indexOf_7cf53) ∈ TBG := tb_in (tk3 (List.mem_of_getElem? (i := 183) rfl)) rfl
theorem tw_664 : (Jvm.Cond.code yJ0_indexOf_7cf53 cJ0_indexOf_7cf53 (3 : Nat) (Option.some Jvm.ClassFile.FieldType.int)) ∈ TBG := tb_in (tk3 (List.mem_of_getElem? (i := 184) rfl)) rfl
theorem tw_665 : (Jvm.Cond.methodLink "java/lang/String" (492 : Nat) yJ0_isLatin1_aae02) ∈ TBG := tb_in (tk3 (List.mem_of_getElem? (i := 185) rfl)) rfl
theorem tw_666 : (Jvm.Cond.instanceMethod yJ0_isLatin1_aae02) ∈ TBG := tb_in (tk3 (List.mem_of_getElem? (i := 186) rfl)) rfl
theorem tw_667 : (Jvm.Cond.selects "java/lang/String" yJ0_isLatin1_aae02 yJ0_isLatin1_aae02) ∈ TBG := tb_in (tk3 (List.mem_of_getElem? (i := 187) rfl)) rfl
theorem tw_668 : (Jvm.Cond.code yJ0_isLatin1_aae02 cJ0_isLatin1_aae02 (1 : Nat) (Option.some Jvm.ClassFile.FieldType.boolean)) ∈ TBG := tb_in (tk3 (List.mem_of_getElem? (i := 188) rfl)) rfl
theorem tw_669 : (Jvm.Cond.fieldLink "java/lang/String" (38 : Nat) "java/lang/String" "COMPACT_STRINGS" "Z") ∈ TBG := tb_in (tk3 (List.mem_of_getElem? (i := 189) rfl)) rfl
theorem tw_671 : (Jvm.Cond.methodLink "java/lang/String" (505 : Nat) yJ0_length_8abf5) ∈ TBG := tb_in (tk3 (List.mem_of_getElem? (i := 191) rfl)) rfl
theorem tw_672 : (Jvm.Cond.instanceMethod yJ0_length_8abf5) ∈ TBG := tb_in (tk3 (List.mem_of_getElem? (i := 192) rfl)) rfl
theorem tw_673 : (Jvm.Cond.selects "java/lang/String" yJ0_length_8abf5 yJ0_length_8abf5) ∈ TBG := tb_in (tk3 (List.mem_of_getElem? (i := 193) rfl)) rfl
theorem tw_674 : (Jvm.Cond.code yJ0_length_8abf5 cJ0_length_8abf5 (1 : Nat) (Option.some Jvm.ClassFile.FieldType.int)) ∈ TBG := tb_in (tk3 (List.mem_of_getElem? (i := 194) rfl)) rfl
theorem tw_675 : (Jvm.Cond.methodLink "java/lang/String" (335 : Nat) yJ0_coder_7d493) ∈ TBG := tb_in (tk3 (List.mem_of_getElem? (i := 195) rfl)) rfl
theorem tw_676 : (Jvm.Cond.instanceMethod yJ0_coder_7d493) ∈ TBG := tb_in (tk3 (List.mem_of_getElem? (i := 196) rfl)) rfl
theorem tw_677 : (Jvm.Cond.selects "java/lang/String" yJ0_coder_7d493 yJ0_coder_7d493) ∈ TBG := tb_in (tk3 (List.mem_of_getElem? (i := 197) rfl)) rfl
theorem tw_678 : (Jvm.Cond.code yJ0_coder_7d493 cJ0_coder_7d493 (1 : Nat) (Option.some Jvm.ClassFile.FieldType.byte)) ∈ TBG := tb_in (tk3 (List.mem_of_getElem? (i := 198) rfl)) rfl
theorem tw_679 : (Jvm.Cond.methodLink "java/lang/String" (637 : Nat) yJ1_indexOf_4cfef) ∈ TBG := tb_in (tk3 (List.mem_of_getElem? (i := 199) rfl)) rfl
theorem tw_680 : (Jvm.Cond.static yJ1_indexOf_4cfef) ∈ TBG := tb_in (tk3 (List.mem_of_getElem? (i := 200) rfl)) rfl
theorem tw_681 : (Jvm.Cond.code yJ1_indexOf_4cfef cJ1_indexOf_4cfef (4 : Nat) (Option.some Jvm.ClassFile.FieldType.int)) ∈ TBG := tb_in (tk3 (List.mem_of_getElem? (i := 201) rfl)) rfl
theorem tw_682 : (Jvm.Cond.methodLink "java/lang/StringLatin1" (88 : Nat) yJ1_canEncode_9a6ad) ∈ TBG := tb_in (tk3 (List.mem_of_getElem? (i := 202) rfl)) rfl
theorem tw_683 : (Jvm.Cond.static yJ1_canEncode_9a6ad) ∈ TBG := tb_in (tk3 (List.mem_of_getElem? (i := 203) rfl)) rfl
theorem tw_684 : (Jvm.Cond.code yJ1_canEncode_9a6ad cJ1_canEncode_9a6ad (1 : Nat) (Option.some Jvm.ClassFile.FieldType.boolean)) ∈ TBG := tb_in (tk3 (List.mem_of_getElem? (i := 204) rfl)) rfl
theorem tw_685 : (Jvm.Cond.methodLink "java/lang/StringLatin1" (92 : Nat) yJ9_max_7cf53) ∈ TBG := tb_in (tk3 (List.mem_of_getElem? (i := 205) rfl)) rfl
theorem tw_686 : (Jvm.Cond.methodLink "java/lang/StringLatin1" (38 : Nat) yJ9_min_7cf53) ∈ TBG := tb_in (tk3 (List.mem_of_getElem? (i := 206) rfl)) rfl
theorem tw_687 : (Jvm.Cond.methodLink "java/lang/StringLatin1" (95 : Nat) yJ1_indexOfChar_4cfef) ∈ TBG := tb_in (tk3 (List.mem_of_getElem? (i := 207) rfl)) rfl
theorem tw_688 : (Jvm.Cond.static yJ1_indexOfChar_4cfef) ∈ TBG := tb_in (tk3 (List.mem_of_getElem? (i := 208) rfl)) rfl
theorem tw_689 : (Jvm.Cond.code yJ1_indexOfChar_4cfef cJ1_indexOfChar_4cfef (6 : Nat) (Option.some Jvm.ClassFile.FieldType.int)) ∈ TBG := tb_in (tk3 (List.mem_of_getElem? (i := 209) rfl)) rfl
theorem tw_690 : (Jvm.Cond.methodLink "java/lang/String" (640 : Nat) yJ2_indexOf_4cfef) ∈ TBG := tb_in (tk3 (List.mem_of_getElem? (i := 210) rfl)) rfl
theorem tw_691 : (Jvm.Cond.static yJ2_indexOf_4cfef) ∈ TBG := tb_in (tk3 (List.mem_of_getElem? (i := 211) rfl)) rfl
theorem tw_692 : (Jvm.Cond.code yJ2_indexOf_4cfef cJ2_indexOf_4cfef (4 : Nat) (Option.some Jvm.ClassFile.FieldType.int)) ∈ TBG := tb_in (tk3 (List.mem_of_getElem? (i := 212) rfl)) rfl
theorem tw_693 : (Jvm.Cond.methodLink "java/lang/StringUTF16" (224 : Nat) yJ9_max_7cf53) ∈ TBG := tb_in (tk3 (List.mem_of_getElem? (i := 213) rfl)) rfl
theorem tw_694 : (Jvm.Cond.methodLink "java/lang/StringUTF16" (183 : Nat) yJ9_min_7cf53) ∈ TBG := tb_in (tk3 (List.mem_of_getElem? (i := 214) rfl)) rfl
theorem tw_695 : (Jvm.Cond.constant "java/lang/StringUTF16" (227 : Nat) (65536 : Int32)) ∈ TBG := tb_in (tk3 (List.mem_of_getElem? (i := 215) rfl)) rfl
theorem tw_696 : (Jvm.Cond.methodLink "java/lang/StringUTF16" (228 : Nat) yJ2_indexOfChar_4cfef) ∈ TBG := tb_in (tk3 (List.mem_of_getElem? (i := 216) rfl)) rfl
theorem tw_697 : (Jvm.Cond.static yJ2_indexOfChar_4cfef) ∈ TBG := tb_in (tk3 (List.mem_of_getElem? (i := 217) rfl)) rfl
theorem tw_698 : (Jvm.Cond.code yJ2_indexOfChar_4cfef cJ2_indexOfChar_4cfef (4 : Nat) (Option.some Jvm.ClassFile.FieldType.int)) ∈ TBG := tb_in (tk3 (List.mem_of_getElem? (i := 218) rfl)) rfl
theorem tw_699 : (Jvm.Cond.methodLink "java/lang/StringUTF16" (96 : Nat) yJ2_checkBoundsBeginEnd_d044e) ∈ TBG := tb_in (tk3 (List.mem_of_getElem? (i := 219) rfl)) rfl
theorem tw_700 : (Jvm.Cond.static yJ2_checkBoundsBeginEnd_d044e) ∈ TBG := tb_in (tk3 (List.mem_of_getElem? (i := 220) rfl)) rfl
theorem tw_701 : (Jvm.Cond.code yJ2_checkBoundsBeginEnd_d044e cJ2_checkBoundsBeginEnd_d044e (3 : Nat) (Option.none : Option Jvm.ClassFile.FieldType)) ∈ TBG := tb_in (tk3 (List.mem_of_getElem? (i := 221) rfl)) rfl
theorem tw_702 : (Jvm.Cond.methodLink "java/lang/StringUTF16" (48 : Nat) yJ2_length_9d52b) ∈ TBG := tb_in (tk3 (List.mem_of_getElem? (i := 222) rfl)) rfl
theorem tw_703 : (Jvm.Cond.static yJ2_length_9d52b) ∈ TBG := tb_in (tk3 (List.mem_of_getElem? (i := 223) rfl)) rfl
theorem tw_704 : (Jvm.Cond.code yJ2_length_9d52b cJ2_length_9d52b (1 : Nat) (Option.some Jvm.ClassFile.FieldType.int)) ∈ TBG := tb_in (tk3 (List.mem_of_getElem? (i := 224) rfl)) rfl
theorem tw_705 : (Jvm.Cond.methodLink "java/lang/StringUTF16" (241 : Nat) yJ0_checkBoundsBeginEnd_23922) ∈ TBG := tb_in (tk3 (List.mem_of_getElem? (i := 225) rfl)) rfl
theorem tw_706 : (Jvm.Cond.static yJ0_checkBoundsBeginEnd_23922) ∈ TBG := tb_in (tk3 (List.mem_of_getElem? (i := 226) rfl)) rfl
theorem tw_707 : (Jvm.Cond.code yJ0_checkBoundsBeginEnd_23922 cJ0_checkBoundsBeginEnd_23922 (3 : Nat) (Option.none : Option Jvm.ClassFile.FieldType)) ∈ TBG := tb_in (tk3 (List.mem_of_getElem? (i := 227) rfl)) rfl
theorem tw_708 : (Jvm.Cond.fieldLink "java/lang/String" (1053 : Nat) "jdk/internal/util/Preconditions" "SIOOBE_FORMATTER" "Ljava/util/function/BiFunction;") ∈ TBG := tb_in (tk3 (List.mem_of_getElem? (i := 228) rfl)) rfl
theorem tw_710 : (Jvm.Cond.methodLink "java/lang/String" (1062 : Nat) yJ3_checkFromToIndex_8c36e) ∈ TBG := tb_in (tk3 (List.mem_of_getElem? (i := 230) rfl)) rfl
theorem tw_711 : (Jvm.Cond.static yJ3_checkFromToIndex_8c36e) ∈ TBG := tb_in (tk3 (List.mem_of_getElem? (i := 231) rfl)) rfl
theorem tw_712 : (Jvm.Cond.code yJ3_checkFromToIndex_8c36e cJ3_checkFromToIndex_8c36e (4 : Nat) (Option.some Jvm.ClassFile.FieldType.int)) ∈ TBG := tb_in (tk3 (List.mem_of_getElem? (i := 232) rfl)) rfl
theorem tw_713 : (Jvm.Cond.methodLink "java/lang/StringUTF16" (244 : Nat) yJ2_indexOfCharUnsafe_4cfef) ∈ TBG := tb_in (tk3 (List.mem_of_getElem? (i := 233) rfl)) rfl
theorem tw_714 : (Jvm.Cond.static yJ2_indexOfCharUnsafe_4cfef) ∈ TBG := tb_in (tk3 (List.mem_of_getElem? (i := 234) rfl)) rfl
theorem tw_715 : (Jvm.Cond.code yJ2_indexOfCharUnsafe_4cfef cJ2_indexOfCharUnsafe_4cfef (5 : Nat) (Option.some Jvm.ClassFile.FieldType.int)) ∈ TBG := tb_in (tk3 (List.mem_of_getElem? (i := 235) rfl)) rfl
theorem tw_716 : (Jvm.Cond.methodLink "java/lang/StringUTF16" (71 : Nat) yJ2_getChar_3b067) ∈ TBG := tb_in (tk3 (List.mem_of_getElem? (i := 236) rfl)) rfl
theorem tw_717 : (Jvm.Cond.static yJ2_getChar_3b067) ∈ TBG := tb_in (tk3 (List.mem_of_getElem? (i := 237) rfl)) rfl
theorem tw_718 : (Jvm.Cond.code yJ2_getChar_3b067 cJ2_getChar_3b067 (2 : Nat) (Option.some Jvm.ClassFile.FieldType.char)) ∈ TBG := tb_in (tk3 (List.mem_of_getElem? (i := 238) rfl)) rfl
theorem tw_719 : (Jvm.Cond.fieldLink "java/lang/StringUTF16" (44 : Nat) "java/lang/StringUTF16" "$assertionsDisabled" "Z") ∈ TBG := tb_in (tk3 (List.mem_of_getElem? (i := 239) rfl)) rfl
theorem tw_721 : (Jvm.Cond.fieldLink "java/lang/StringUTF16" (59 : Nat) "java/lang/StringUTF16" "HI_BYTE_SHIFT" "I") ∈ TBG := tb_in (tk4 (List.mem_of_getElem? (i := 1) rfl)) rfl
theorem tw_723 : (Jvm.Cond.fieldLink "java/lang/StringUTF16" (63 : Nat) "java/lang/StringUTF16" "LO_BYTE_SHIFT" "I") ∈ TBG := tb_in (tk4 (List.mem_of_getElem? (i := 3) rfl)) rfl
theorem tw_725 : (Jvm.Cond.methodLink "java/lang/StringUTF16" (232 : Nat) yJ2_indexOfSupplementary_4cfef) ∈ TBG := tb_in (tk4 (List.mem_of_getElem? (i := 5) rfl)) rfl
theorem tw_726 : (Jvm.Cond.static yJ2_indexOfSupplementary_4cfef) ∈ TBG := tb_in (tk4 (List.mem_of_getElem? (i := 6) rfl)) rfl
theorem tw_727 : (Jvm.Cond.code yJ2_indexOfSupplementary_4cfef cJ2_indexOfSupplementary_4cfef (7 : Nat) (Option.some Jvm.ClassFile.FieldType.int)) ∈ TBG := tb_in (tk4 (List.mem_of_getElem? (i := 7) rfl)) rfl
theorem tw_728 : (Jvm.Cond.methodLink "java/lang/StringUTF16" (164 : Nat) yJ11_isValidCodePoint_9a6ad) ∈ TBG := tb_in (tk4 (List.mem_of_getElem? (i := 8) rfl)) rfl
theorem tw_729 : (Jvm.Cond.static yJ11_isValidCodePoint_9a6ad) ∈ TBG := tb_in (tk4 (List.mem_of_getElem? (i := 9) rfl)) rfl
theorem tw_730 : (Jvm.Cond.code yJ11_isValidCodePoint_9a6ad cJ11_isValidCodePoint_9a6ad (2 : Nat) (Option.some Jvm.ClassFile.FieldType.boolean)) ∈ TBG := tb_in (tk4 (List.mem_of_getElem? (i := 10) rfl)) rfl
theorem tw_731 : (Jvm.Cond.methodLink "java/lang/StringUTF16" (157 : Nat) yJ11_highSurrogate_5068e) ∈ TBG := tb_in (tk4 (List.mem_of_getElem? (i := 11) rfl)) rfl
theorem tw_732 : (Jvm.Cond.static yJ11_highSurrogate_5068e) ∈ TBG := tb_in (tk4 (List.mem_of_getElem? (i := 12) rfl)) rfl
theorem tw_733 : (Jvm.Cond.code yJ11_highSurrogate_5068e cJ11_highSurrogate_5068e (1 : Nat) (Option.some Jvm.ClassFile.FieldType.char)) ∈ TBG := tb_in (tk4 (List.mem_of_getElem? (i := 13) rfl)) rfl
theorem tw_734 : (Jvm.Cond.constant "java/lang/Character" (110 : Nat) (55232 : Int32)) ∈ TBG := tb_in (tk4 (List.mem_of_getElem? (i := 14) rfl)) rfl
theorem tw_735 : (Jvm.Cond.methodLink "java/lang/StringUTF16" (161 : Nat) yJ11_lowSurrogate_5068e) ∈ TBG := tb_in (tk4 (List.mem_of_getElem? (i := 15) rfl)) rfl
theorem tw_736 : (Jvm.Cond.static yJ11_lowSurrogate_5068e) ∈ TBG := tb_in (tk4 (List.mem_of_getElem? (i := 16) rfl)) rfl
theorem tw_737 : (Jvm.Cond.code yJ11_lowSurrogate_5068e cJ11_lowSurrogate_5068e (1 : Nat) (Option.some Jvm.ClassFile.FieldType.char)) ∈ TBG := tb_in (tk4 (List.mem_of_getElem? (i := 17) rfl)) rfl
theorem tw_738 : (Jvm.Cond.constant "java/lang/Character" (76 : Nat) (56320 : Int32)) ∈ TBG := tb_in (tk4 (List.mem_of_getElem? (i := 18) rfl)) rfl
theorem tw_739 : (Jvm.Cond.methodLink "DustParish$Reader" (69 : Nat) yX4_readLine) ∈ TBG := tb_in (tk4 (List.mem_of_getElem? (i := 19) rfl)) rfl
theorem tw_741 : (Jvm.Cond.instanceMethod yX4_readLine) ∈ TBG := tb_in (tk4 (List.mem_of_getElem? (i := 21) rfl)) rfl
theorem tw_742 : (Jvm.Cond.code yX4_readLine cX4_readLine (1 : Nat) (Option.some Jvm.ClassFile.FieldType.int)) ∈ TBG := tb_in (tk4 (List.mem_of_getElem? (i := 22) rfl)) rfl
theorem tw_744 : (Jvm.Cond.methodLink "DustParish$Reader" (82 : Nat) yX9_isWord) ∈ TBG := tb_in (tk4 (List.mem_of_getElem? (i := 24) rfl)) rfl
theorem tw_745 : (Jvm.Cond.instanceMethod yX9_isWord) ∈ TBG := tb_in (tk4 (List.mem_of_getElem? (i := 25) rfl)) rfl
theorem tw_746 : (Jvm.Cond.selects "DustParish$Tokens" yX9_isWord yX9_isWord) ∈ TBG := tb_in (tk4 (List.mem_of_getElem? (i := 26) rfl)) rfl
theorem tw_747 : (Jvm.Cond.code yX9_isWord cX9_isWord (3 : Nat) (Option.some Jvm.ClassFile.FieldType.boolean)) ∈ TBG := tb_in (tk4 (List.mem_of_getElem? (i := 27) rfl)) rfl
theorem tw_748 : (Jvm.Cond.methodLink "DustParish$Tokens" (63 : Nat) yJ0_length_8abf5) ∈ TBG := tb_in (tk4 (List.mem_of_getElem? (i := 28) rfl)) rfl
theorem tw_749 : (Jvm.Cond.methodLink "DustParish$Tokens" (66 : Nat) yJ0_charAt_5068e) ∈ TBG := tb_in (tk4 (List.mem_of_getElem? (i := 29) rfl)) rfl
theorem tw_750 : (Jvm.Cond.instanceMethod yJ0_charAt_5068e) ∈ TBG := tb_in (tk4 (List.mem_of_getElem? (i := 30) rfl)) rfl
theorem tw_751 : (Jvm.Cond.selects "java/lang/String" yJ0_charAt_5068e yJ0_charAt_5068e) ∈ TBG := tb_in (tk4 (List.mem_of_getElem? (i := 31) rfl)) rfl
theorem tw_752 : (Jvm.Cond.code yJ0_charAt_5068e cJ0_charAt_5068e (2 : Nat) (Option.some Jvm.ClassFile.FieldType.char)) ∈ TBG := tb_in (tk4 (List.mem_of_getElem? (i := 32) rfl)) rfl
theorem tw_753 : (Jvm.Cond.methodLink "java/lang/String" (495 : Nat) yJ1_charAt_3b067) ∈ TBG := tb_in (tk4 (List.mem_of_getElem? (i := 33) rfl)) rfl
theorem tw_754 : (Jvm.Cond.static yJ1_charAt_3b067) ∈ TBG := tb_in (tk4 (List.mem_of_getElem? (i := 34) rfl)) rfl
theorem tw_755 : (Jvm.Cond.code yJ1_charAt_3b067 cJ1_charAt_3b067 (2 : Nat) (Option.some Jvm.ClassFile.FieldType.char)) ∈ TBG := tb_in (tk4 (List.mem_of_getElem? (i := 35) rfl)) rfl
theorem tw_756 : (Jvm.Cond.methodLink "java/lang/StringLatin1" (9 : Nat) yJ0_checkIndex_df160) ∈ TBG := tb_in (tk4 (List.mem_of_getElem? (i := 36) rfl)) rfl
theorem tw_757 : (Jvm.Cond.static yJ0_checkIndex_df160) ∈ TBG := tb_in (tk4 (List.mem_of_getElem? (i := 37) rfl)) rfl
theorem tw_758 : (Jvm.Cond.code yJ0_checkIndex_df160 cJ0_checkIndex_df160 (2 : Nat) (Option.none : Option Jvm.ClassFile.FieldType)) ∈ TBG := tb_in (tk4 (List.mem_of_getElem? (i := 38) rfl)) rfl
theorem tw_759 : (Jvm.Cond.methodLink "java/lang/String" (1059 : Nat) yJ3_checkIndex_8e157) ∈ TBG := tb_in (tk4 (List.mem_of_getElem? (i := 39) rfl)) rfl
theorem tw_760 : (Jvm.Cond.static yJ3_checkIndex_8e157) ∈ TBG := tb_in (tk4 (List.mem_of_getElem? (i := 40) rfl)) rfl
theorem tw_761 : (Jvm.Cond.code yJ3_checkIndex_8e157 cJ3_checkIndex_8e157 (3 : Nat) (Option.some Jvm.ClassFile.FieldType.int)) ∈ TBG := tb_in (tk4 (List.mem_of_getElem? (i := 41) rfl)) rfl
theorem tw_762 : (Jvm.Cond.methodLink "java/lang/String" (498 : Nat) yJ2_charAt_3b067) ∈ TBG := tb_in (tk4 (List.mem_of_getElem? (i := 42) rfl)) rfl
theorem tw_763 : (Jvm.Cond.static yJ2_charAt_3b067) ∈ TBG := tb_in (tk4 (List.mem_of_getElem? (i := 43) rfl)) rfl
theorem tw_764 : (Jvm.Cond.code yJ2_charAt_3b067 cJ2_charAt_3b067 (2 : Nat) (Option.some Jvm.ClassFile.FieldType.char)) ∈ TBG := tb_in (tk4 (List.mem_of_getElem? (i := 44) rfl)) rfl
theorem tw_765 : (Jvm.Cond.methodLink "java/lang/StringUTF16" (67 : Nat) yJ2_checkIndex_2214a) ∈ TBG := tb_in (tk4 (List.mem_of_getElem? (i := 45) rfl)) rfl
theorem tw_766 : (Jvm.Cond.static yJ2_checkIndex_2214a) ∈ TBG := tb_in (tk4 (List.mem_of_getElem? (i := 46) rfl)) rfl
theorem tw_767 : (Jvm.Cond.code yJ2_checkIndex_2214a cJ2_checkIndex_2214a (2 : Nat) (Option.none : Option Jvm.ClassFile.FieldType)) ∈ TBG := tb_in (tk4 (List.mem_of_getElem? (i := 47) rfl)) rfl
theorem tw_768 : (Jvm.Cond.methodLink "java/lang/StringUTF16" (414 : Nat) yJ0_checkIndex_df160) ∈ TBG := tb_in (tk4 (List.mem_of_getElem? (i := 48) rfl)) rfl
theorem tw_769 : (Jvm.Cond.methodLink "DustParish$Reader" (86 : Nat) yX4_readRoom) ∈ TBG := tb_in (tk4 (List.mem_of_getElem? (i := 49) rfl)) rfl
theorem tw_771 : (Jvm.Cond.instanceMethod yX4_readRoom) ∈ TBG := tb_in (tk4 (List.mem_of_getElem? (i := 51) rfl)) rfl
theorem tw_772 : (Jvm.Cond.code yX4_readRoom cX4_readRoom (4 : Nat) (Option.some Jvm.ClassFile.FieldType.int)) ∈ TBG := tb_in (tk4 (List.mem_of_getElem? (i := 52) rfl)) rfl
theorem tw_773 : (Jvm.Cond.methodLink "DustParish$Reader" (77 : Nat) yX9_step) ∈ TBG := tb_in (tk4 (List.mem_of_getElem? (i := 53) rfl)) rfl
theorem tw_774 : (Jvm.Cond.methodLink "DustParish$Reader" (149 : Nat) yX4_readNumber) ∈ TBG := tb_in (tk4 (List.mem_of_getElem? (i := 54) rfl)) rfl
theorem tw_776 : (Jvm.Cond.instanceMethod yX4_readNumber) ∈ TBG := tb_in (tk4 (List.mem_of_getElem? (i := 56) rfl)) rfl
theorem tw_777 : (Jvm.Cond.code yX4_readNumber cX4_readNumber (4 : Nat) (Option.some Jvm.ClassFile.FieldType.int)) ∈ TBG := tb_in (tk4 (List.mem_of_getElem? (i := 57) rfl)) rfl
theorem tw_778 : (Jvm.Cond.methodLink "DustParish$Reader" (130 : Nat) yX4_lookAtNumber) ∈ TBG := tb_in (tk4 (List.mem_of_getElem? (i := 58) rfl)) rfl
theorem tw_780 : (Jvm.Cond.instanceMethod yX4_lookAtNumber) ∈ TBG := tb_in (tk4 (List.mem_of_getElem? (i := 60) rfl)) rfl
theorem tw_781 : (Jvm.Cond.code yX4_lookAtNumber cX4_lookAtNumber (1 : Nat) (Option.some Jvm.ClassFile.FieldType.int)) ∈ TBG := tb_in (tk4 (List.mem_of_getElem? (i := 61) rfl)) rfl
theorem tw_785 : (Jvm.Cond.methodLink "DustParish$Reader" (96 : Nat) yX4_readDoor) ∈ TBG := tb_in (tk4 (List.mem_of_getElem? (i := 65) rfl)) rfl
theorem tw_787 : (Jvm.Cond.instanceMethod yX4_readDoor) ∈ TBG := tb_in (tk4 (List.mem_of_getElem? (i := 67) rfl)) rfl
theorem tw_788 : (Jvm.Cond.code yX4_readDoor cX4_readDoor (4 : Nat) (Option.some Jvm.ClassFile.FieldType.int)) ∈ TBG := tb_in (tk4 (List.mem_of_getElem? (i := 68) rfl)) rfl
theorem tw_789 : (Jvm.Cond.methodLink "DustParish$Reader" (165 : Nat) yX4_readRoomNumber) ∈ TBG := tb_in (tk4 (List.mem_of_getElem? (i := 69) rfl)) rfl
theorem tw_791 : (Jvm.Cond.instanceMethod yX4_readRoomNumber) ∈ TBG := tb_in (tk4 (List.mem_of_getElem? (i := 71) rfl)) rfl
theorem tw_792 : (Jvm.Cond.code yX4_readRoomNumber cX4_readRoomNumber (2 : Nat) (Option.some Jvm.ClassFile.FieldType.int)) ∈ TBG := tb_in (tk4 (List.mem_of_getElem? (i := 72) rfl)) rfl
theorem tw_793 : (Jvm.Cond.methodLink "DustParish$Reader" (136 : Nat) yX4_lookAtRoomNumber) ∈ TBG := tb_in (tk4 (List.mem_of_getElem? (i := 73) rfl)) rfl
theorem tw_795 : (Jvm.Cond.instanceMethod yX4_lookAtRoomNumber) ∈ TBG := tb_in (tk4 (List.mem_of_getElem? (i := 75) rfl)) rfl
theorem tw_796 : (Jvm.Cond.code yX4_lookAtRoomNumber cX4_lookAtRoomNumber (2 : Nat) (Option.some Jvm.ClassFile.FieldType.int)) ∈ TBG := tb_in (tk4 (List.mem_of_getElem? (i := 76) rfl)) rfl
theorem tw_797 : (Jvm.Cond.methodLink "DustParish$Reader" (168 : Nat) yX2_hasDoor) ∈ TBG := tb_in (tk4 (List.mem_of_getElem? (i := 77) rfl)) rfl
theorem tw_798 : (Jvm.Cond.instanceMethod yX2_hasDoor) ∈ TBG := tb_in (tk4 (List.mem_of_getElem? (i := 78) rfl)) rfl
theorem tw_799 : (Jvm.Cond.selects "DustParish$Facts" yX2_hasDoor yX2_hasDoor) ∈ TBG := tb_in (tk4 (List.mem_of_getElem? (i := 79) rfl)) rfl
theorem tw_800 : (Jvm.Cond.code yX2_hasDoor cX2_hasDoor (4 : Nat) (Option.some Jvm.ClassFile.FieldType.boolean)) ∈ TBG := tb_in (tk4 (List.mem_of_getElem? (i := 80) rfl)) rfl
theorem tw_801 : (Jvm.Cond.methodLink "DustParish$Facts" (94 : Nat) yX2_behind) ∈ TBG := tb_in (tk4 (List.mem_of_getElem? (i := 81) rfl)) rfl
theorem tw_803 : (Jvm.Cond.instanceMethod yX2_behind) ∈ TBG := tb_in (tk4 (List.mem_of_getElem? (i := 83) rfl)) rfl
theorem tw_804 : (Jvm.Cond.code yX2_behind cX2_behind (3 : Nat) (Option.some Jvm.ClassFile.FieldType.int)) ∈ TBG := tb_in (tk4 (List.mem_of_getElem? (i := 84) rfl)) rfl
theorem tw_805 : (Jvm.Cond.methodLink "DustParish$Reader" (172 : Nat) yX2_addDoor) ∈ TBG := tb_in (tk4 (List.mem_of_getElem? (i := 85) rfl)) rfl
theorem tw_806 : (Jvm.Cond.instanceMethod yX2_addDoor) ∈ TBG := tb_in (tk4 (List.mem_of_getElem? (i := 86) rfl)) rfl
theorem tw_807 : (Jvm.Cond.selects "DustParish$Facts" yX2_addDoor yX2_addDoor) ∈ TBG := tb_in (tk4 (List.mem_of_getElem? (i := 87) rfl)) rfl
theorem tw_808 : (Jvm.Cond.code yX2_addDoor cX2_addDoor (4 : Nat) (Option.none : Option Jvm.ClassFile.FieldType)) ∈ TBG := tb_in (tk4 (List.mem_of_getElem? (i := 88) rfl)) rfl
theorem tw_810 : (Jvm.Cond.methodLink "DustParish$Reader" (101 : Nat) yX4_readWind) ∈ TBG := tb_in (tk4 (List.mem_of_getElem? (i := 90) rfl)) rfl
theorem tw_812 : (Jvm.Cond.instanceMethod yX4_readWind) ∈ TBG := tb_in (tk4 (List.mem_of_getElem? (i := 92) rfl)) rfl
theorem tw_813 : (Jvm.Cond.code yX4_readWind cX4_readWind (1 : Nat) (Option.some Jvm.ClassFile.FieldType.int)) ∈ TBG := tb_in (tk4 (List.mem_of_getElem? (i := 93) rfl)) rfl
theorem tw_815 : (Jvm.Cond.methodLink "DustParish$Reader" (106 : Nat) yX4_readBlow) ∈ TBG := tb_in (tk4 (List.mem_of_getElem? (i := 95) rfl)) rfl
theorem tw_817 : (Jvm.Cond.instanceMethod yX4_readBlow) ∈ TBG := tb_in (tk4 (List.mem_of_getElem? (i := 97) rfl)) rfl
theorem tw_818 : (Jvm.Cond.code yX4_readBlow cX4_readBlow (4 : Nat) (Option.some Jvm.ClassFile.FieldType.int)) ∈ TBG := tb_in (tk4 (List.mem_of_getElem? (i := 98) rfl)) rfl
theorem tw_820 : (Jvm.Cond.methodLink "DustParish$Reader" (111 : Nat) yX4_readCalendar) ∈ TBG := tb_in (tk4 (List.mem_of_getElem? (i := 100) rfl)) rfl
theorem tw_822 : (Jvm.Cond.instanceMethod yX4_readCalendar) ∈ TBG := tb_in (tk4 (List.mem_of_getElem? (i := 102) rfl)) rfl
theorem tw_823 : (Jvm.Cond.code yX4_readCalendar cX4_readCalendar (3 : Nat) (Option.some Jvm.ClassFile.FieldType.int)) ∈ TBG := tb_in (tk4 (List.mem_of_getElem? (i := 103) rfl)) rfl
theorem tw_825 : (Jvm.Cond.methodLink "DustParish$Reader" (116 : Nat) yX4_readEvery) ∈ TBG := tb_in (tk4 (List.mem_of_getElem? (i := 105) rfl)) rfl
theorem tw_827 : (Jvm.Cond.instanceMethod yX4_readEvery) ∈ TBG := tb_in (tk4 (List.mem_of_getElem? (i := 107) rfl)) rfl
theorem tw_828 : (Jvm.Cond.code yX4_readEvery cX4_readEvery (2 : Nat) (Option.some Jvm.ClassFile.FieldType.int)) ∈ TBG := tb_in (tk4 (List.mem_of_getElem? (i := 108) rfl)) rfl
theorem tw_830 : (Jvm.Cond.methodLink "DustParish$Reader" (121 : Nat) yX4_readClean) ∈ TBG := tb_in (tk4 (List.mem_of_getElem? (i := 110) rfl)) rfl
theorem tw_832 : (Jvm.Cond.instanceMethod yX4_readClean) ∈ TBG := tb_in (tk4 (List.mem_of_getElem? (i := 112) rfl)) rfl
theorem tw_833 : (Jvm.Cond.code yX4_readClean cX4_readClean (2 : Nat) (Option.some Jvm.ClassFile.FieldType.int)) ∈ TBG := tb_in (tk4 (List.mem_of_getElem? (i := 113) rfl)) rfl
theorem tw_835 : (Jvm.Cond.methodLink "DustParish$Reader" (126 : Nat) yX6_read) ∈ TBG := tb_in (tk4 (List.mem_of_getElem? (i := 115) rfl)) rfl
theorem tw_836 : (Jvm.Cond.instanceMethod yX6_read) ∈ TBG := tb_in (tk4 (List.mem_of_getElem? (i := 116) rfl)) rfl
theorem tw_837 : (Jvm.Cond.selects "DustParish$RuleReader" yX6_read yX6_read) ∈ TBG := tb_in (tk4 (List.mem_of_getElem? (i := 117) rfl)) rfl
theorem tw_838 : (Jvm.Cond.code yX6_read cX6_read (4 : Nat) (Option.some Jvm.ClassFile.FieldType.int)) ∈ TBG := tb_in (tk4 (List.mem_of_getElem? (i := 118) rfl)) rfl
theorem tw_839 : (Jvm.Cond.methodLink "DustParish$RuleReader" (40 : Nat) yX6_wantNot) ∈ TBG := tb_in (tk4 (List.mem_of_getElem? (i := 119) rfl)) rfl
theorem tw_841 : (Jvm.Cond.instanceMethod yX6_wantNot) ∈ TBG := tb_in (tk4 (List.mem_of_getElem? (i := 121) rfl)) rfl
theorem tw_842 : (Jvm.Cond.code yX6_wantNot cX6_wantNot (1 : Nat) (Option.none : Option Jvm.ClassFile.FieldType)) ∈ TBG := tb_in (tk4 (List.mem_of_getElem? (i := 122) rfl)) rfl
theorem tw_843 : (Jvm.Cond.methodLink "DustParish$RuleReader" (63 : Nat) yX6_wantPart) ∈ TBG := tb_in (tk4 (List.mem_of_getElem? (i := 123) rfl)) rfl
theorem tw_845 : (Jvm.Cond.instanceMethod yX6_wantPart) ∈ TBG := tb_in (tk4 (List.mem_of_getElem? (i := 125) rfl)) rfl
theorem tw_846 : (Jvm.Cond.code yX6_wantPart cX6_wantPart (1 : Nat) (Option.none : Option Jvm.ClassFile.FieldType)) ∈ TBG := tb_in (tk4 (List.mem_of_getElem? (i := 126) rfl)) rfl
theorem tw_847 : (Jvm.Cond.methodLink "DustParish$RuleReader" (43 : Nat) yX9_isSign) ∈ TBG := tb_in (tk4 (List.mem_of_getElem? (i := 127) rfl)) rfl
theorem tw_848 : (Jvm.Cond.instanceMethod yX9_isSign) ∈ TBG := tb_in (tk4 (List.mem_of_getElem? (i := 128) rfl)) rfl
theorem tw_849 : (Jvm.Cond.selects "DustParish$Tokens" yX9_isSign yX9_isSign) ∈ TBG := tb_in (tk4 (List.mem_of_getElem? (i := 129) rfl)) rfl
theorem tw_850 : (Jvm.Cond.code yX9_isSign cX9_isSign (2 : Nat) (Option.some Jvm.ClassFile.FieldType.boolean)) ∈ TBG := tb_in (tk4 (List.mem_of_getElem? (i := 130) rfl)) rfl
theorem tw_851 : (Jvm.Cond.methodLink "DustParish$RuleReader" (49 : Nat) yX6_release) ∈ TBG := tb_in (tk4 (List.mem_of_getElem? (i := 131) rfl)) rfl
theorem tw_853 : (Jvm.Cond.instanceMethod yX6_release) ∈ TBG := tb_in (tk4 (List.mem_of_getElem? (i := 133) rfl)) rfl
theorem tw_854 : (Jvm.Cond.code yX6_release cX6_release (2 : Nat) (Option.none : Option Jvm.ClassFile.FieldType)) ∈ TBG := tb_in (tk4 (List.mem_of_getElem? (i := 134) rfl)) rfl
theorem tw_855 : (Jvm.Cond.methodLink "DustParish$RuleReader" (111 : Nat) yX6_strengthOf) ∈ TBG := tb_in (tk4 (List.mem_of_getElem? (i := 135) rfl)) rfl
theorem tw_856 : (Jvm.Cond.static yX6_strengthOf) ∈ TBG := tb_in (tk4 (List.mem_of_getElem? (i := 136) rfl)) rfl
theorem tw_857 : (Jvm.Cond.code yX6_strengthOf cX6_strengthOf (1 : Nat) (Option.some Jvm.ClassFile.FieldType.int)) ∈ TBG := tb_in (tk4 (List.mem_of_getElem? (i := 137) rfl)) rfl
theorem tw_858 : (Jvm.Cond.methodLink "DustParish$RuleReader" (84 : Nat) yX5_put) ∈ TBG := tb_in (tk4 (List.mem_of_getElem? (i := 138) rfl)) rfl
theorem tw_859 : (Jvm.Cond.instanceMethod yX5_put) ∈ TBG := tb_in (tk4 (List.mem_of_getElem? (i := 139) rfl)) rfl
theorem tw_860 : (Jvm.Cond.selects "DustParish$Rule" yX5_put yX5_put) ∈ TBG := tb_in (tk4 (List.mem_of_getElem? (i := 140) rfl)) rfl
theorem tw_861 : (Jvm.Cond.code yX5_put cX5_put (2 : Nat) (Option.none : Option Jvm.ClassFile.FieldType)) ∈ TBG := tb_in (tk4 (List.mem_of_getElem? (i := 141) rfl)) rfl
theorem tw_862 : (Jvm.Cond.methodLink "DustParish$RuleReader" (53 : Nat) yX6_readPart) ∈ TBG := tb_in (tk4 (List.mem_of_getElem? (i := 142) rfl)) rfl
theorem tw_864 : (Jvm.Cond.instanceMethod yX6_readPart) ∈ TBG := tb_in (tk4 (List.mem_of_getElem? (i := 144) rfl)) rfl
theorem tw_865 : (Jvm.Cond.code yX6_readPart cX6_readPart (3 : Nat) (Option.some Jvm.ClassFile.FieldType.int)) ∈ TBG := tb_in (tk4 (List.mem_of_getElem? (i := 145) rfl)) rfl
theorem tw_866 : (Jvm.Cond.methodLink "DustParish$RuleReader" (69 : Nat) yX6_hold) ∈ TBG := tb_in (tk4 (List.mem_of_getElem? (i := 146) rfl)) rfl
theorem tw_868 : (Jvm.Cond.instanceMethod yX6_hold) ∈ TBG := tb_in (tk4 (List.mem_of_getElem? (i := 148) rfl)) rfl
theorem tw_869 : (Jvm.Cond.code yX6_hold cX6_hold (2 : Nat) (Option.some Jvm.ClassFile.FieldType.int)) ∈ TBG := tb_in (tk4 (List.mem_of_getElem? (i := 149) rfl)) rfl
theorem tw_871 : (Jvm.Cond.methodLink "DustParish$RuleReader" (75 : Nat) yX9_isWord) ∈ TBG := tb_in (tk4 (List.mem_of_getElem? (i := 151) rfl)) rfl
theorem tw_872 : (Jvm.Cond.methodLink "DustParish$RuleReader" (90 : Nat) yX6_valueAtHand) ∈ TBG := tb_in (tk4 (List.mem_of_getElem? (i := 152) rfl)) rfl
theorem tw_874 : (Jvm.Cond.instanceMethod yX6_valueAtHand) ∈ TBG := tb_in (tk4 (List.mem_of_getElem? (i := 154) rfl)) rfl
theorem tw_875 : (Jvm.Cond.code yX6_valueAtHand cX6_valueAtHand (1 : Nat) (Option.some Jvm.ClassFile.FieldType.int)) ∈ TBG := tb_in (tk4 (List.mem_of_getElem? (i := 155) rfl)) rfl
theorem tw_882 : (Jvm.Cond.methodLink "DustParish$RuleReader" (57 : Nat) yX6_readSign) ∈ TBG := tb_in (tk4 (List.mem_of_getElem? (i := 162) rfl)) rfl
theorem tw_884 : (Jvm.Cond.instanceMethod yX6_readSign) ∈ TBG := tb_in (tk4 (List.mem_of_getElem? (i := 164) rfl)) rfl
theorem tw_885 : (Jvm.Cond.code yX6_readSign cX6_readSign (3 : Nat) (Option.some Jvm.ClassFile.FieldType.int)) ∈ TBG := tb_in (tk4 (List.mem_of_getElem? (i := 165) rfl)) rfl
theorem tw_886 : (Jvm.Cond.methodLink "DustParish$RuleReader" (105 : Nat) yX6_close) ∈ TBG := tb_in (tk4 (List.mem_of_getElem? (i := 166) rfl)) rfl
theorem tw_888 : (Jvm.Cond.instanceMethod yX6_close) ∈ TBG := tb_in (tk4 (List.mem_of_getElem? (i := 168) rfl)) rfl
theorem tw_889 : (Jvm.Cond.code yX6_close cX6_close (1 : Nat) (Option.some Jvm.ClassFile.FieldType.int)) ∈ TBG := tb_in (tk4 (List.mem_of_getElem? (i := 169) rfl)) rfl
theorem tw_890 : (Jvm.Cond.methodLink "DustParish$RuleReader" (117 : Nat) yJ9_max_7cf53) ∈ TBG := tb_in (tk4 (List.mem_of_getElem? (i := 170) rfl)) rfl
theorem tw_891 : (Jvm.Cond.methodLink "DustParish$RuleReader" (108 : Nat) yX6_signAtHand) ∈ TBG := tb_in (tk4 (List.mem_of_getElem? (i := 171) rfl)) rfl
theorem tw_893 : (Jvm.Cond.instanceMethod yX6_signAtHand) ∈ TBG := tb_in (tk4 (List.mem_of_getElem? (i := 173) rfl)) rfl
theorem tw_894 : (Jvm.Cond.code yX6_signAtHand cX6_signAtHand (1 : Nat) (Option.some Jvm.ClassFile.FieldType.int)) ∈ TBG := tb_in (tk4 (List.mem_of_getElem? (i := 174) rfl)) rfl
theorem tw_897 : (Jvm.Cond.methodLink "DustParish$RuleReader" (114 : Nat) yX6_strengthWaiting) ∈ TBG := tb_in (tk4 (List.mem_of_getElem? (i := 177) rfl)) rfl
theorem tw_899 : (Jvm.Cond.instanceMethod yX6_strengthWaiting) ∈ TBG := tb_in (tk4 (List.mem_of_getElem? (i := 179) rfl)) rfl
theorem tw_900 : (Jvm.Cond.code yX6_strengthWaiting cX6_strengthWaiting (1 : Nat) (Option.some Jvm.ClassFile.FieldType.int)) ∈ TBG := tb_in (tk4 (List.mem_of_getElem? (i := 180) rfl)) rfl
theorem tw_901 : (Jvm.Cond.methodLink "DustParish$RuleReader" (60 : Nat) yX9_step) ∈ TBG := tb_in (tk4 (List.mem_of_getElem? (i := 181) rfl)) rfl
theorem tw_902 : (Jvm.Cond.methodLink "DustParish$Reader" (73 : Nat) yX9_isSign) ∈ TBG := tb_in (tk4 (List.mem_of_getElem? (i := 182) rfl)) rfl
theorem tw_903 : (Jvm.Cond.methodLink "DustParish" (90 : Nat) yX4_place) ∈ TBG := tb_in (tk4 (List.mem_of_getElem? (i := 183) rfl)) rfl
theorem tw_904 : (Jvm.Cond.instanceMethod yX4_place) ∈ TBG := tb_in (tk4 (List.mem_of_getElem? (i := 184) rfl)) rfl
theorem tw_905 : (Jvm.Cond.selects "DustParish$Reader" yX4_place yX4_place) ∈ TBG := tb_in (tk4 (List.mem_of_getElem? (i := 185) rfl)) rfl
theorem tw_906 : (Jvm.Cond.code yX4_place cX4_place (1 : Nat) (Option.some Jvm.ClassFile.FieldType.int)) ∈ TBG := tb_in (tk4 (List.mem_of_getElem? (i := 186) rfl)) rfl
theorem tw_907 : (Jvm.Cond.methodLink "DustParish" (97 : Nat) yX2_measure) ∈ TBG := tb_in (tk4 (List.mem_of_getElem? (i := 187) rfl)) rfl
theorem tw_908 : (Jvm.Cond.instanceMethod yX2_measure) ∈ TBG := tb_in (tk4 (List.mem_of_getElem? (i := 188) rfl)) rfl
theorem tw_909 : (Jvm.Cond.selects "DustParish$Facts" yX2_measure yX2_measure) ∈ TBG := tb_in (tk4 (List.mem_of_getElem? (i := 189) rfl)) rfl
theorem tw_910 : (Jvm.Cond.code yX2_measure cX2_measure (2 : Nat) (Option.none : Option Jvm.ClassFile.FieldType)) ∈ TBG := tb_in (tk4 (List.mem_of_getElem? (i := 190) rfl)) rfl
theorem tw_911 : (Jvm.Cond.methodLink "DustParish$Facts" (86 : Nat) yX2_shortenBy) ∈ TBG := tb_in (tk4 (List.mem_of_getElem? (i := 191) rfl)) rfl
theorem tw_913 : (Jvm.Cond.instanceMethod yX2_shortenBy) ∈ TBG := tb_in (tk4 (List.mem_of_getElem? (i := 193) rfl)) rfl
theorem tw_914 : (Jvm.Cond.code yX2_shortenBy cX2_shortenBy (7 : Nat) (Option.none : Option Jvm.ClassFile.FieldType)) ∈ TBG := tb_in (tk4 (List.mem_of_getElem? (i := 194) rfl)) rfl
theorem tw_916 : (Jvm.Cond.static yX10_shorter) ∈ TBG := tb_in (tk4 (List.mem_of_getElem? (i := 196) rfl)) rfl
theorem tw_917 : (Jvm.Cond.code yX10_shorter cX10_shorter (2 : Nat) (Option.some Jvm.ClassFile.FieldType.int)) ∈ TBG := tb_in (tk4 (List.mem_of_getElem? (i := 197) rfl)) rfl
theorem tw_918 : (Jvm.Cond.methodLink "DustParish" (292 : Nat) yJ9_min_7cf53) ∈ TBG := tb_in (tk4 (List.mem_of_getElem? (i := 198) rfl)) rfl
theorem tw_919 : (Jvm.Cond.methodLink "DustParish" (100 : Nat) yX3_begin) ∈ TBG := tb_in (tk4 (List.mem_of_getElem? (i := 199) rfl)) rfl
theorem tw_920 : (Jvm.Cond.instanceMethod yX3_begin) ∈ TBG := tb_in (tk4 (List.mem_of_getElem? (i := 200) rfl)) rfl
theorem tw_921 : (Jvm.Cond.selects "DustParish$Present" yX3_begin yX3_begin) ∈ TBG := tb_in (tk4 (List.mem_of_getElem? (i := 201) rfl)) rfl
theorem tw_922 : (Jvm.Cond.code yX3_begin cX3_begin (2 : Nat) (Option.none : Option Jvm.ClassFile.FieldType)) ∈ TBG := tb_in (tk4 (List.mem_of_getElem? (i := 202) rfl)) rfl
theorem tw_923 : (Jvm.Cond.methodLink "DustParish$Present" (34 : Nat) yX8_begin) ∈ TBG := tb_in (tk4 (List.mem_of_getElem? (i := 203) rfl)) rfl
theorem tw_924 : (Jvm.Cond.instanceMethod yX8_begin) ∈ TBG := tb_in (tk4 (List.mem_of_getElem? (i := 204) rfl)) rfl
theorem tw_925 : (Jvm.Cond.selects "DustParish$State" yX8_begin yX8_begin) ∈ TBG := tb_in (tk4 (List.mem_of_getElem? (i := 205) rfl)) rfl
theorem tw_926 : (Jvm.Cond.code yX8_begin cX8_begin (2 : Nat) (Option.none : Option Jvm.ClassFile.FieldType)) ∈ TBG := tb_in (tk4 (List.mem_of_getElem? (i := 206) rfl)) rfl
theorem tw_927 : (Jvm.Cond.methodLink "DustParish$State" (40 : Nat) yJ7_fill_53178) ∈ TBG := tb_in (tk4 (List.mem_of_getElem? (i := 207) rfl)) rfl
theorem tw_928 : (Jvm.Cond.methodLink "DustParishLaw" (123 : Nat) yL_count) ∈ TBG := tb_in (tk4 (List.mem_of_getElem? (i := 208) rfl)) rfl
theorem tw_929 : (Jvm.Cond.static yL_count) ∈ TBG := tb_in (tk4 (List.mem_of_getElem? (i := 209) rfl)) rfl
theorem tw_930 : (Jvm.Cond.codeWith yL_count method_4_code (4 : Nat) (Option.some Jvm.ClassFile.FieldType.int) [((0 : Nat), (9 : Nat), (12 : Nat), (18 : Nat))]) ∈ TBG := tb_in (tk4 (List.mem_of_getElem? (i := 210) rfl)) rfl
theorem tw_931 : (Jvm.Cond.classLink "DustParishLaw" (18 : Nat) "java/util/NoSuchElementException") ∈ TBG := tb_in (tk4 (List.mem_of_getElem? (i := 211) rfl)) rfl
theorem tw_932 : (Jvm.Cond.methodLink "DustParishLaw" (15 : Nat) yX10_count) ∈ TBG := tb_in (tk4 (List.mem_of_getElem? (i := 212) rfl)) rfl
theorem tw_933 : (Jvm.Cond.instanceMethod yX10_count) ∈ TBG := tb_in (tk4 (List.mem_of_getElem? (i := 213) rfl)) rfl
theorem tw_934 : (Jvm.Cond.selects "DustParish" yX10_count yX10_count) ∈ TBG := tb_in (tk4 (List.mem_of_getElem? (i := 214) rfl)) rfl
theorem tw_935 : (Jvm.Cond.code yX10_count cX10_count (2 : Nat) (Option.some Jvm.ClassFile.FieldType.int)) ∈ TBG := tb_in (tk4 (List.mem_of_getElem? (i := 215) rfl)) rfl
theorem tw_936 : (Jvm.Cond.methodLink "DustParish" (128 : Nat) yX1_dustInAll) ∈ TBG := tb_in (tk4 (List.mem_of_getElem? (i := 216) rfl)) rfl
theorem tw_937 : (Jvm.Cond.static yX1_dustInAll) ∈ TBG := tb_in (tk4 (List.mem_of_getElem? (i := 217) rfl)) rfl
theorem tw_938 : (Jvm.Cond.code yX1_dustInAll cX1_dustInAll (4 : Nat) (Option.some Jvm.ClassFile.FieldType.int)) ∈ TBG := tb_in (tk4 (List.mem_of_getElem? (i := 218) rfl)) rfl
theorem tw_939 : (Jvm.Cond.classLink "DustParish" (159 : Nat) "java/util/NoSuchElementException") ∈ TBG := tb_in (tk4 (List.mem_of_getElem? (i := 219) rfl)) rfl
theorem tw_940 : (Jvm.Cond.instantiable "java/util/NoSuchElementException" (6 : Nat)) ∈ TBG := tb_in (tk4 (List.mem_of_getElem? (i := 220) rfl)) rfl
theorem tw_942 : (Jvm.Cond.selects "java/util/NoSuchElementException" ({ cls := "java/lang/Throwable", name := "fillInStackTrace", desc := "(I)Ljava/lang/Throwable;" } : Jvm.MethodName) ({ cls := "java/lang/Throwable", name := "fillInStackTrace", desc := "(I)Ljava/lang/Throwable;" } : Jvm.MethodName)) ∈ TBG := tb_in (tk4 (List.mem_of_getElem? (i := 222) rfl)) rfl
theorem tw_943 : (Jvm.Cond.lays "java/util/NoSuchElementException" "java/lang/Throwable" "cause" "Ljava/lang/Throwable;") ∈ TBG := tb_in (tk4 (List.mem_of_getElem? (i := 223) rfl)) rfl
theorem tw_944 : (Jvm.Cond.lays "java/util/NoSuchElementException" "java/lang/Throwable" "stackTrace" "[Ljava/lang/StackTraceElement;") ∈ TBG := tb_in (tk4 (List.mem_of_getElem? (i := 224) rfl)) rfl
theorem tw_945 : (Jvm.Cond.lays "java/util/NoSuchElementException" "java/lang/Throwable" "suppressedExceptions" "Ljava/util/List;") ∈ TBG := tb_in (tk4 (List.mem_of_getElem? (i := 225) rfl)) rfl
theorem tw_946 : (Jvm.Cond.lays "java/util/NoSuchElementException" "java/lang/Throwable" "detailMessage" "Ljava/lang/String;") ∈ TBG := tb_in (tk4 (List.mem_of_getElem? (i := 226) rfl)) rfl
theorem tw_947 : (Jvm.Cond.lays "java/util/NoSuchElementException" "java/lang/Throwable" "backtrace" "Ljava/lang/Object;") ∈ TBG := tb_in (tk4 (List.mem_of_getElem? (i := 227) rfl)) rfl
theorem tw_948 : (Jvm.Cond.methodLink "DustParish" (161 : Nat) ({ cls := "java/util/NoSuchElementException", name := "<init>", desc := "()V" } : Jvm.MethodName)) ∈ TBG := tb_in (tk4 (List.mem_of_getElem? (i := 228) rfl)) rfl
theorem tw_949 : (Jvm.Cond.instanceMethod ({ cls := "java/util/NoSuchElementException", name := "<init>", desc := "()V" } : Jvm.MethodName)) ∈ TBG := tb_in (tk4 (List.mem_of_getElem? (i := 229) rfl)) rfl
theorem tw_950 : (Jvm.Cond.code ({ cls := "java/util/NoSuchElementException", name := "<init>", desc := "()V" } : Jvm.MethodName) prog_30_method_1_code (1 : Nat) (Option.none : Option Jvm.ClassFile.FieldType)) ∈ TBG := tb_in (tk4 (List.mem_of_getElem? (i := 230) rfl)) rfl
theorem tw_951 : (Jvm.Cond.methodLink "java/util/NoSuchElementException" (1 : Nat) ({ cls := "java/lang/RuntimeException", name := "<init>", desc := "()V" } : Jvm.MethodName)) ∈ TBG := tb_in (tk4 (List.mem_of_getElem? (i := 231) rfl)) rfl
theorem tw_952 : (Jvm.Cond.lays "java/util/NoSuchElementException" "java/lang/Throwable" "depth" "I") ∈ TBG := tb_in (tk4 (List.mem_of_getElem? (i := 232) rfl)) rfl
theorem tw_953 : (Jvm.Cond.superclass "java/util/NoSuchElementException" "java/lang/RuntimeException") ∈ TBG := tb_in (tk4 (List.mem_of_getElem? (i := 233) rfl)) rfl
theorem tw_954 : (Jvm.Cond.methodLink "DustParishLaw" (126 : Nat) yL_room) ∈ TBG := tb_in (tk4 (List.mem_of_getElem? (i := 234) rfl)) rfl
theorem tw_955 : (Jvm.Cond.static yL_room) ∈ TBG := tb_in (tk4 (List.mem_of_getElem? (i := 235) rfl)) rfl
theorem tw_956 : (Jvm.Cond.codeWith yL_room method_5_code (5 : Nat) (Option.some Jvm.ClassFile.FieldType.int) [((0 : Nat), (10 : Nat), (13 : Nat), (18 : Nat))]) ∈ TBG := tb_in (tk4 (List.mem_of_getElem? (i := 236) rfl)) rfl
theorem tw_957 : (Jvm.Cond.methodLink "DustParishLaw" (20 : Nat) yX10_room) ∈ TBG := tb_in (tk4 (List.mem_of_getElem? (i := 237) rfl)) rfl
theorem tw_958 : (Jvm.Cond.instanceMethod yX10_room) ∈ TBG := tb_in (tk4 (List.mem_of_getElem? (i := 238) rfl)) rfl
theorem tw_959 : (Jvm.Cond.selects "DustParish" yX10_room yX10_room) ∈ TBG := tb_in (tk4 (List.mem_of_getElem? (i := 239) rfl)) rfl
theorem tw_960 : (Jvm.Cond.code yX10_room cX10_room (3 : Nat) (Option.some Jvm.ClassFile.FieldType.int)) ∈ TBG := tb_in (tk5 (List.mem_of_getElem? (i := 0) rfl)) rfl
theorem tw_961 : (Jvm.Cond.methodLink "DustParish" (162 : Nat) yX10_needRoom) ∈ TBG := tb_in (tk5 (List.mem_of_getElem? (i := 1) rfl)) rfl
theorem tw_963 : (Jvm.Cond.instanceMethod yX10_needRoom) ∈ TBG := tb_in (tk5 (List.mem_of_getElem? (i := 3) rfl)) rfl
theorem tw_964 : (Jvm.Cond.code yX10_needRoom cX10_needRoom (2 : Nat) (Option.none : Option Jvm.ClassFile.FieldType)) ∈ TBG := tb_in (tk5 (List.mem_of_getElem? (i := 4) rfl)) rfl
theorem tw_965 : (Jvm.Cond.methodLink "DustParish" (180 : Nat) yX1_titheOf) ∈ TBG := tb_in (tk5 (List.mem_of_getElem? (i := 5) rfl)) rfl
theorem tw_966 : (Jvm.Cond.methodLink "DustParish" (184 : Nat) yX2_doorsOf) ∈ TBG := tb_in (tk5 (List.mem_of_getElem? (i := 6) rfl)) rfl
theorem tw_967 : (Jvm.Cond.instanceMethod yX2_doorsOf) ∈ TBG := tb_in (tk5 (List.mem_of_getElem? (i := 7) rfl)) rfl
theorem tw_968 : (Jvm.Cond.selects "DustParish$Facts" yX2_doorsOf yX2_doorsOf) ∈ TBG := tb_in (tk5 (List.mem_of_getElem? (i := 8) rfl)) rfl
theorem tw_969 : (Jvm.Cond.code yX2_doorsOf cX2_doorsOf (4 : Nat) (Option.some Jvm.ClassFile.FieldType.int)) ∈ TBG := tb_in (tk5 (List.mem_of_getElem? (i := 9) rfl)) rfl
theorem tw_970 : (Jvm.Cond.methodLink "DustParishLaw" (130 : Nat) yL_far) ∈ TBG := tb_in (tk5 (List.mem_of_getElem? (i := 10) rfl)) rfl
theorem tw_971 : (Jvm.Cond.static yL_far) ∈ TBG := tb_in (tk5 (List.mem_of_getElem? (i := 11) rfl)) rfl
theorem tw_972 : (Jvm.Cond.codeWith yL_far method_6_code (5 : Nat) (Option.some Jvm.ClassFile.FieldType.int) [((0 : Nat), (10 : Nat), (13 : Nat), (18 : Nat))]) ∈ TBG := tb_in (tk5 (List.mem_of_getElem? (i := 12) rfl)) rfl
theorem tw_973 : (Jvm.Cond.methodLink "DustParishLaw" (24 : Nat) yX10_far) ∈ TBG := tb_in (tk5 (List.mem_of_getElem? (i := 13) rfl)) rfl
theorem tw_974 : (Jvm.Cond.instanceMethod yX10_far) ∈ TBG := tb_in (tk5 (List.mem_of_getElem? (i := 14) rfl)) rfl
theorem tw_975 : (Jvm.Cond.selects "DustParish" yX10_far yX10_far) ∈ TBG := tb_in (tk5 (List.mem_of_getElem? (i := 15) rfl)) rfl
theorem tw_976 : (Jvm.Cond.code yX10_far cX10_far (3 : Nat) (Option.some Jvm.ClassFile.FieldType.int)) ∈ TBG := tb_in (tk5 (List.mem_of_getElem? (i := 16) rfl)) rfl
theorem tw_977 : (Jvm.Cond.methodLink "DustParish" (188 : Nat) yX2_wayFrom) ∈ TBG := tb_in (tk5 (List.mem_of_getElem? (i := 17) rfl)) rfl
theorem tw_978 : (Jvm.Cond.instanceMethod yX2_wayFrom) ∈ TBG := tb_in (tk5 (List.mem_of_getElem? (i := 18) rfl)) rfl
theorem tw_979 : (Jvm.Cond.selects "DustParish$Facts" yX2_wayFrom yX2_wayFrom) ∈ TBG := tb_in (tk5 (List.mem_of_getElem? (i := 19) rfl)) rfl
theorem tw_980 : (Jvm.Cond.code yX2_wayFrom cX2_wayFrom (3 : Nat) (Option.some Jvm.ClassFile.FieldType.int)) ∈ TBG := tb_in (tk5 (List.mem_of_getElem? (i := 20) rfl)) rfl
theorem tw_981 : (Jvm.Cond.methodLink "DustParishLaw" (133 : Nat) yL_near) ∈ TBG := tb_in (tk5 (List.mem_of_getElem? (i := 21) rfl)) rfl
theorem tw_982 : (Jvm.Cond.static yL_near) ∈ TBG := tb_in (tk5 (List.mem_of_getElem? (i := 22) rfl)) rfl
theorem tw_983 : (Jvm.Cond.codeWith yL_near method_7_code (5 : Nat) (Option.some Jvm.ClassFile.FieldType.int) [((0 : Nat), (10 : Nat), (13 : Nat), (18 : Nat))]) ∈ TBG := tb_in (tk5 (List.mem_of_getElem? (i := 23) rfl)) rfl
theorem tw_984 : (Jvm.Cond.methodLink "DustParishLaw" (27 : Nat) yX10_near) ∈ TBG := tb_in (tk5 (List.mem_of_getElem? (i := 24) rfl)) rfl
theorem tw_985 : (Jvm.Cond.instanceMethod yX10_near) ∈ TBG := tb_in (tk5 (List.mem_of_getElem? (i := 25) rfl)) rfl
theorem tw_986 : (Jvm.Cond.selects "DustParish" yX10_near yX10_near) ∈ TBG := tb_in (tk5 (List.mem_of_getElem? (i := 26) rfl)) rfl
theorem tw_987 : (Jvm.Cond.code yX10_near cX10_near (6 : Nat) (Option.some Jvm.ClassFile.FieldType.int)) ∈ TBG := tb_in (tk5 (List.mem_of_getElem? (i := 27) rfl)) rfl
theorem tw_988 : (Jvm.Cond.methodLink "DustParishLaw" (136 : Nat) yL_blow) ∈ TBG := tb_in (tk5 (List.mem_of_getElem? (i := 28) rfl)) rfl
theorem tw_989 : (Jvm.Cond.static yL_blow) ∈ TBG := tb_in (tk5 (List.mem_of_getElem? (i := 29) rfl)) rfl
theorem tw_990 : (Jvm.Cond.codeWith yL_blow method_8_code (6 : Nat) (Option.some Jvm.ClassFile.FieldType.int) [((0 : Nat), (12 : Nat), (15 : Nat), (18 : Nat))]) ∈ TBG := tb_in (tk5 (List.mem_of_getElem? (i := 30) rfl)) rfl
theorem tw_991 : (Jvm.Cond.methodLink "DustParishLaw" (30 : Nat) yX10_blow) ∈ TBG := tb_in (tk5 (List.mem_of_getElem? (i := 31) rfl)) rfl
theorem tw_992 : (Jvm.Cond.instanceMethod yX10_blow) ∈ TBG := tb_in (tk5 (List.mem_of_getElem? (i := 32) rfl)) rfl
theorem tw_993 : (Jvm.Cond.selects "DustParish" yX10_blow yX10_blow) ∈ TBG := tb_in (tk5 (List.mem_of_getElem? (i := 33) rfl)) rfl
theorem tw_994 : (Jvm.Cond.code yX10_blow cX10_blow (5 : Nat) (Option.some Jvm.ClassFile.FieldType.int)) ∈ TBG := tb_in (tk5 (List.mem_of_getElem? (i := 34) rfl)) rfl
theorem tw_995 : (Jvm.Cond.methodLink "DustParishLaw" (140 : Nat) yL_wind) ∈ TBG := tb_in (tk5 (List.mem_of_getElem? (i := 35) rfl)) rfl
theorem tw_996 : (Jvm.Cond.static yL_wind) ∈ TBG := tb_in (tk5 (List.mem_of_getElem? (i := 36) rfl)) rfl
theorem tw_997 : (Jvm.Cond.codeWith yL_wind method_9_code (4 : Nat) (Option.some Jvm.ClassFile.FieldType.int) [((0 : Nat), (9 : Nat), (12 : Nat), (13 : Nat))]) ∈ TBG := tb_in (tk5 (List.mem_of_getElem? (i := 37) rfl)) rfl
theorem tw_998 : (Jvm.Cond.methodLink "DustParishLaw" (34 : Nat) yX10_wind) ∈ TBG := tb_in (tk5 (List.mem_of_getElem? (i := 38) rfl)) rfl
theorem tw_999 : (Jvm.Cond.instanceMethod yX10_wind) ∈ TBG := tb_in (tk5 (List.mem_of_getElem? (i := 39) rfl)) rfl
theorem tw_1000 : (Jvm.Cond.selects "DustParish" yX10_wind yX10_wind) ∈ TBG := tb_in (tk5 (List.mem_of_getElem? (i := 40) rfl)) rfl
theorem tw_1001 : (Jvm.Cond.code yX10_wind cX10_wind (2 : Nat) (Option.some Jvm.ClassFile.FieldType.int)) ∈ TBG := tb_in (tk5 (List.mem_of_getElem? (i := 41) rfl)) rfl
theorem tw_1002 : (Jvm.Cond.methodLink "DustParish" (204 : Nat) yX1_windOf) ∈ TBG := tb_in (tk5 (List.mem_of_getElem? (i := 42) rfl)) rfl
theorem tw_1003 : (Jvm.Cond.methodLink "DustParishLaw" (147 : Nat) yL_sweep) ∈ TBG := tb_in (tk5 (List.mem_of_getElem? (i := 43) rfl)) rfl
theorem tw_1004 : (Jvm.Cond.static yL_sweep) ∈ TBG := tb_in (tk5 (List.mem_of_getElem? (i := 44) rfl)) rfl
theorem tw_1005 : (Jvm.Cond.codeWith yL_sweep method_10_code (6 : Nat) (Option.some Jvm.ClassFile.FieldType.int) [((0 : Nat), (12 : Nat), (15 : Nat), (18 : Nat))]) ∈ TBG := tb_in (tk5 (List.mem_of_getElem? (i := 45) rfl)) rfl
theorem tw_1006 : (Jvm.Cond.methodLink "DustParishLaw" (37 : Nat) yX10_sweep) ∈ TBG := tb_in (tk5 (List.mem_of_getElem? (i := 46) rfl)) rfl
theorem tw_1007 : (Jvm.Cond.instanceMethod yX10_sweep) ∈ TBG := tb_in (tk5 (List.mem_of_getElem? (i := 47) rfl)) rfl
theorem tw_1008 : (Jvm.Cond.selects "DustParish" yX10_sweep yX10_sweep) ∈ TBG := tb_in (tk5 (List.mem_of_getElem? (i := 48) rfl)) rfl
theorem tw_1009 : (Jvm.Cond.code yX10_sweep cX10_sweep (4 : Nat) (Option.some Jvm.ClassFile.FieldType.int)) ∈ TBG := tb_in (tk5 (List.mem_of_getElem? (i := 49) rfl)) rfl
theorem tw_1010 : (Jvm.Cond.methodLink "DustParish" (218 : Nat) yX2_hasDoor) ∈ TBG := tb_in (tk5 (List.mem_of_getElem? (i := 50) rfl)) rfl
theorem tw_1011 : (Jvm.Cond.methodLink "DustParish" (222 : Nat) yX8_bring) ∈ TBG := tb_in (tk5 (List.mem_of_getElem? (i := 51) rfl)) rfl
theorem tw_1012 : (Jvm.Cond.instanceMethod yX8_bring) ∈ TBG := tb_in (tk5 (List.mem_of_getElem? (i := 52) rfl)) rfl
theorem tw_1013 : (Jvm.Cond.selects "DustParish$State" yX8_bring yX8_bring) ∈ TBG := tb_in (tk5 (List.mem_of_getElem? (i := 53) rfl)) rfl
theorem tw_1014 : (Jvm.Cond.code yX8_bring cX8_bring (4 : Nat) (Option.none : Option Jvm.ClassFile.FieldType)) ∈ TBG := tb_in (tk5 (List.mem_of_getElem? (i := 54) rfl)) rfl
theorem tw_1015 : (Jvm.Cond.methodLink "DustParish$State" (53 : Nat) yX8_lay) ∈ TBG := tb_in (tk5 (List.mem_of_getElem? (i := 55) rfl)) rfl
theorem tw_1016 : (Jvm.Cond.methodLink "DustParishLaw" (150 : Nat) yL_shake) ∈ TBG := tb_in (tk5 (List.mem_of_getElem? (i := 56) rfl)) rfl
theorem tw_1017 : (Jvm.Cond.static yL_shake) ∈ TBG := tb_in (tk5 (List.mem_of_getElem? (i := 57) rfl)) rfl
theorem tw_1018 : (Jvm.Cond.codeWith yL_shake method_11_code (5 : Nat) (Option.some Jvm.ClassFile.FieldType.int) [((0 : Nat), (10 : Nat), (13 : Nat), (18 : Nat))]) ∈ TBG := tb_in (tk5 (List.mem_of_getElem? (i := 58) rfl)) rfl
theorem tw_1019 : (Jvm.Cond.methodLink "DustParishLaw" (40 : Nat) yX10_shake) ∈ TBG := tb_in (tk5 (List.mem_of_getElem? (i := 59) rfl)) rfl
theorem tw_1020 : (Jvm.Cond.instanceMethod yX10_shake) ∈ TBG := tb_in (tk5 (List.mem_of_getElem? (i := 60) rfl)) rfl
theorem tw_1021 : (Jvm.Cond.selects "DustParish" yX10_shake yX10_shake) ∈ TBG := tb_in (tk5 (List.mem_of_getElem? (i := 61) rfl)) rfl
theorem tw_1022 : (Jvm.Cond.code yX10_shake cX10_shake (4 : Nat) (Option.some Jvm.ClassFile.FieldType.int)) ∈ TBG := tb_in (tk5 (List.mem_of_getElem? (i := 62) rfl)) rfl
theorem tw_1023 : (Jvm.Cond.methodLink "DustParishLaw" (153 : Nat) yL_sneeze) ∈ TBG := tb_in (tk5 (List.mem_of_getElem? (i := 63) rfl)) rfl
theorem tw_1024 : (Jvm.Cond.static yL_sneeze) ∈ TBG := tb_in (tk5 (List.mem_of_getElem? (i := 64) rfl)) rfl
theorem tw_1025 : (Jvm.Cond.codeWith yL_sneeze method_12_code (5 : Nat) (Option.some Jvm.ClassFile.FieldType.int) [((0 : Nat), (10 : Nat), (13 : Nat), (18 : Nat))]) ∈ TBG := tb_in (tk5 (List.mem_of_getElem? (i := 65) rfl)) rfl
theorem tw_1026 : (Jvm.Cond.methodLink "DustParishLaw" (43 : Nat) yX10_sneeze) ∈ TBG := tb_in (tk5 (List.mem_of_getElem? (i := 66) rfl)) rfl
theorem tw_1027 : (Jvm.Cond.instanceMethod yX10_sneeze) ∈ TBG := tb_in (tk5 (List.mem_of_getElem? (i := 67) rfl)) rfl
theorem tw_1028 : (Jvm.Cond.selects "DustParish" yX10_sneeze yX10_sneeze) ∈ TBG := tb_in (tk5 (List.mem_of_getElem? (i := 68) rfl)) rfl
theorem tw_1029 : (Jvm.Cond.code yX10_sneeze cX10_sneeze (3 : Nat) (Option.some Jvm.ClassFile.FieldType.int)) ∈ TBG := tb_in (tk5 (List.mem_of_getElem? (i := 69) rfl)) rfl
theorem tw_1030 : (Jvm.Cond.methodLink "DustParish" (226 : Nat) yX8_steal) ∈ TBG := tb_in (tk5 (List.mem_of_getElem? (i := 70) rfl)) rfl
theorem tw_1031 : (Jvm.Cond.instanceMethod yX8_steal) ∈ TBG := tb_in (tk5 (List.mem_of_getElem? (i := 71) rfl)) rfl
theorem tw_1032 : (Jvm.Cond.selects "DustParish$State" yX8_steal yX8_steal) ∈ TBG := tb_in (tk5 (List.mem_of_getElem? (i := 72) rfl)) rfl
theorem tw_1033 : (Jvm.Cond.code yX8_steal cX8_steal (4 : Nat) (Option.some Jvm.ClassFile.FieldType.int)) ∈ TBG := tb_in (tk5 (List.mem_of_getElem? (i := 73) rfl)) rfl
theorem tw_1034 : (Jvm.Cond.methodLink "DustParishLaw" (164 : Nat) yL_then) ∈ TBG := tb_in (tk5 (List.mem_of_getElem? (i := 74) rfl)) rfl
theorem tw_1035 : (Jvm.Cond.static yL_then) ∈ TBG := tb_in (tk5 (List.mem_of_getElem? (i := 75) rfl)) rfl
theorem tw_1036 : (Jvm.Cond.codeWith yL_then method_13_code (5 : Nat) (Option.some Jvm.ClassFile.FieldType.int) [((0 : Nat), (10 : Nat), (13 : Nat), (18 : Nat)), ((0 : Nat), (10 : Nat), (17 : Nat), (13 : Nat))]) ∈ TBG := tb_in (tk5 (List.mem_of_getElem? (i := 76) rfl)) rfl
theorem tw_1037 : (Jvm.Cond.methodLink "DustParishLaw" (46 : Nat) yX10_then) ∈ TBG := tb_in (tk5 (List.mem_of_getElem? (i := 77) rfl)) rfl
theorem tw_1038 : (Jvm.Cond.instanceMethod yX10_then) ∈ TBG := tb_in (tk5 (List.mem_of_getElem? (i := 78) rfl)) rfl
theorem tw_1039 : (Jvm.Cond.selects "DustParish" yX10_then yX10_then) ∈ TBG := tb_in (tk5 (List.mem_of_getElem? (i := 79) rfl)) rfl
theorem tw_1040 : (Jvm.Cond.code yX10_then cX10_then (3 : Nat) (Option.some Jvm.ClassFile.FieldType.int)) ∈ TBG := tb_in (tk5 (List.mem_of_getElem? (i := 80) rfl)) rfl
theorem tw_1041 : (Jvm.Cond.methodLink "DustParish" (235 : Nat) yX10_needAhead) ∈ TBG := tb_in (tk5 (List.mem_of_getElem? (i := 81) rfl)) rfl
theorem tw_1042 : (Jvm.Cond.static yX10_needAhead) ∈ TBG := tb_in (tk5 (List.mem_of_getElem? (i := 82) rfl)) rfl
theorem tw_1043 : (Jvm.Cond.code yX10_needAhead cX10_needAhead (1 : Nat) (Option.none : Option Jvm.ClassFile.FieldType)) ∈ TBG := tb_in (tk5 (List.mem_of_getElem? (i := 83) rfl)) rfl
theorem tw_1044 : (Jvm.Cond.methodLink "DustParish" (238 : Nat) yX10_tryDays) ∈ TBG := tb_in (tk5 (List.mem_of_getElem? (i := 84) rfl)) rfl
theorem tw_1046 : (Jvm.Cond.instanceMethod yX10_tryDays) ∈ TBG := tb_in (tk5 (List.mem_of_getElem? (i := 86) rfl)) rfl
theorem tw_1047 : (Jvm.Cond.code yX10_tryDays cX10_tryDays (2 : Nat) (Option.none : Option Jvm.ClassFile.FieldType)) ∈ TBG := tb_in (tk5 (List.mem_of_getElem? (i := 87) rfl)) rfl
theorem tw_1048 : (Jvm.Cond.methodLink "DustParishLaw" (167 : Nat) yL_taken) ∈ TBG := tb_in (tk5 (List.mem_of_getElem? (i := 88) rfl)) rfl
theorem tw_1049 : (Jvm.Cond.static yL_taken) ∈ TBG := tb_in (tk5 (List.mem_of_getElem? (i := 89) rfl)) rfl
theorem tw_1050 : (Jvm.Cond.codeWith yL_taken method_14_code (4 : Nat) (Option.some Jvm.ClassFile.FieldType.int) [((0 : Nat), (9 : Nat), (12 : Nat), (13 : Nat))]) ∈ TBG := tb_in (tk5 (List.mem_of_getElem? (i := 90) rfl)) rfl
theorem tw_1051 : (Jvm.Cond.methodLink "DustParishLaw" (49 : Nat) yX10_taken) ∈ TBG := tb_in (tk5 (List.mem_of_getElem? (i := 91) rfl)) rfl
theorem tw_1052 : (Jvm.Cond.instanceMethod yX10_taken) ∈ TBG := tb_in (tk5 (List.mem_of_getElem? (i := 92) rfl)) rfl
theorem tw_1053 : (Jvm.Cond.selects "DustParish" yX10_taken yX10_taken) ∈ TBG := tb_in (tk5 (List.mem_of_getElem? (i := 93) rfl)) rfl
theorem tw_1054 : (Jvm.Cond.code yX10_taken cX10_taken (2 : Nat) (Option.some Jvm.ClassFile.FieldType.int)) ∈ TBG := tb_in (tk5 (List.mem_of_getElem? (i := 94) rfl)) rfl
theorem tw_1055 : (Jvm.Cond.methodLink "DustParishLaw" (170 : Nat) yL_thick) ∈ TBG := tb_in (tk5 (List.mem_of_getElem? (i := 95) rfl)) rfl
theorem tw_1056 : (Jvm.Cond.static yL_thick) ∈ TBG := tb_in (tk5 (List.mem_of_getElem? (i := 96) rfl)) rfl
theorem tw_1057 : (Jvm.Cond.codeWith yL_thick method_15_code (5 : Nat) (Option.some Jvm.ClassFile.FieldType.int) [((0 : Nat), (10 : Nat), (13 : Nat), (18 : Nat)), ((0 : Nat), (10 : Nat), (17 : Nat), (13 : Nat))]) ∈ TBG := tb_in (tk5 (List.mem_of_getElem? (i := 97) rfl)) rfl
theorem tw_1058 : (Jvm.Cond.methodLink "DustParishLaw" (52 : Nat) yX10_thick) ∈ TBG := tb_in (tk5 (List.mem_of_getElem? (i := 98) rfl)) rfl
theorem tw_1059 : (Jvm.Cond.instanceMethod yX10_thick) ∈ TBG := tb_in (tk5 (List.mem_of_getElem? (i := 99) rfl)) rfl
theorem tw_1060 : (Jvm.Cond.selects "DustParish" yX10_thick yX10_thick) ∈ TBG := tb_in (tk5 (List.mem_of_getElem? (i := 100) rfl)) rfl
theorem tw_1061 : (Jvm.Cond.code yX10_thick cX10_thick (4 : Nat) (Option.some Jvm.ClassFile.FieldType.int)) ∈ TBG := tb_in (tk5 (List.mem_of_getElem? (i := 101) rfl)) rfl
theorem tw_1062 : (Jvm.Cond.methodLink "DustParishLaw" (177 : Nat) yL_order) ∈ TBG := tb_in (tk5 (List.mem_of_getElem? (i := 102) rfl)) rfl
theorem tw_1063 : (Jvm.Cond.static yL_order) ∈ TBG := tb_in (tk5 (List.mem_of_getElem? (i := 103) rfl)) rfl
theorem tw_1064 : (Jvm.Cond.codeWith yL_order method_16_code (5 : Nat) (Option.some Jvm.ClassFile.FieldType.int) [((0 : Nat), (10 : Nat), (13 : Nat), (18 : Nat))]) ∈ TBG := tb_in (tk5 (List.mem_of_getElem? (i := 104) rfl)) rfl
theorem tw_1065 : (Jvm.Cond.methodLink "DustParishLaw" (55 : Nat) yX10_order) ∈ TBG := tb_in (tk5 (List.mem_of_getElem? (i := 105) rfl)) rfl
theorem tw_1066 : (Jvm.Cond.instanceMethod yX10_order) ∈ TBG := tb_in (tk5 (List.mem_of_getElem? (i := 106) rfl)) rfl
theorem tw_1067 : (Jvm.Cond.selects "DustParish" yX10_order yX10_order) ∈ TBG := tb_in (tk5 (List.mem_of_getElem? (i := 107) rfl)) rfl
theorem tw_1068 : (Jvm.Cond.code yX10_order cX10_order (4 : Nat) (Option.some Jvm.ClassFile.FieldType.int)) ∈ TBG := tb_in (tk5 (List.mem_of_getElem? (i := 108) rfl)) rfl
theorem tw_1069 : (Jvm.Cond.methodLink "DustParish" (254 : Nat) yX10_findOrder) ∈ TBG := tb_in (tk5 (List.mem_of_getElem? (i := 109) rfl)) rfl
theorem tw_1071 : (Jvm.Cond.instanceMethod yX10_findOrder) ∈ TBG := tb_in (tk5 (List.mem_of_getElem? (i := 111) rfl)) rfl
theorem tw_1072 : (Jvm.Cond.code yX10_findOrder cX10_findOrder (6 : Nat) (Option.some Jvm.ClassFile.FieldType.int)) ∈ TBG := tb_in (tk5 (List.mem_of_getElem? (i := 112) rfl)) rfl
theorem tw_1073 : (Jvm.Cond.methodLink "DustParish" (247 : Nat) yX1_pass) ∈ TBG := tb_in (tk5 (List.mem_of_getElem? (i := 113) rfl)) rfl
theorem tw_1074 : (Jvm.Cond.methodLink "DustParish" (257 : Nat) ({ cls := "java/lang/System", name := "arraycopy", desc := "(Ljava/lang/Object;ILjava/lang/Object;II)V" } : Jvm.MethodName)) ∈ TBG := tb_in (tk5 (List.mem_of_getElem? (i := 114) rfl)) rfl
theorem tw_1075 : (Jvm.Cond.methodLink "DustParish" (263 : Nat) yX10_nextRow) ∈ TBG := tb_in (tk5 (List.mem_of_getElem? (i := 115) rfl)) rfl
theorem tw_1076 : (Jvm.Cond.static yX10_nextRow) ∈ TBG := tb_in (tk5 (List.mem_of_getElem? (i := 116) rfl)) rfl
theorem tw_1077 : (Jvm.Cond.code yX10_nextRow cX10_nextRow (6 : Nat) (Option.some Jvm.ClassFile.FieldType.boolean)) ∈ TBG := tb_in (tk5 (List.mem_of_getElem? (i := 117) rfl)) rfl
theorem tw_1078 : (Jvm.Cond.methodLink "DustParish" (267 : Nat) yX10_swap) ∈ TBG := tb_in (tk5 (List.mem_of_getElem? (i := 118) rfl)) rfl
theorem tw_1079 : (Jvm.Cond.static yX10_swap) ∈ TBG := tb_in (tk5 (List.mem_of_getElem? (i := 119) rfl)) rfl
theorem tw_1080 : (Jvm.Cond.code yX10_swap cX10_swap (4 : Nat) (Option.none : Option Jvm.ClassFile.FieldType)) ∈ TBG := tb_in (tk5 (List.mem_of_getElem? (i := 120) rfl)) rfl
theorem tw_1081 : (Jvm.Cond.methodLink "DustParishLaw" (184 : Nat) yL_round) ∈ TBG := tb_in (tk5 (List.mem_of_getElem? (i := 121) rfl)) rfl
theorem tw_1082 : (Jvm.Cond.static yL_round) ∈ TBG := tb_in (tk5 (List.mem_of_getElem? (i := 122) rfl)) rfl
theorem tw_1083 : (Jvm.Cond.codeWith yL_round method_17_code (5 : Nat) (Option.some Jvm.ClassFile.FieldType.int) [((0 : Nat), (10 : Nat), (13 : Nat), (18 : Nat)), ((0 : Nat), (10 : Nat), (17 : Nat), (13 : Nat))]) ∈ TBG := tb_in (tk5 (List.mem_of_getElem? (i := 123) rfl)) rfl
theorem tw_1084 : (Jvm.Cond.methodLink "DustParishLaw" (58 : Nat) yX10_round) ∈ TBG := tb_in (tk5 (List.mem_of_getElem? (i := 124) rfl)) rfl
theorem tw_1085 : (Jvm.Cond.instanceMethod yX10_round) ∈ TBG := tb_in (tk5 (List.mem_of_getElem? (i := 125) rfl)) rfl
theorem tw_1086 : (Jvm.Cond.selects "DustParish" yX10_round yX10_round) ∈ TBG := tb_in (tk5 (List.mem_of_getElem? (i := 126) rfl)) rfl
theorem tw_1087 : (Jvm.Cond.code yX10_round cX10_round (6 : Nat) (Option.some Jvm.ClassFile.FieldType.int)) ∈ TBG := tb_in (tk5 (List.mem_of_getElem? (i := 127) rfl)) rfl
theorem tw_1088 : (Jvm.Cond.methodLink "DustParish" (275 : Nat) yX10_walkAll) ∈ TBG := tb_in (tk5 (List.mem_of_getElem? (i := 128) rfl)) rfl
theorem tw_1090 : (Jvm.Cond.instanceMethod yX10_walkAll) ∈ TBG := tb_in (tk5 (List.mem_of_getElem? (i := 130) rfl)) rfl
theorem tw_1091 : (Jvm.Cond.code yX10_walkAll cX10_walkAll (5 : Nat) (Option.none : Option Jvm.ClassFile.FieldType)) ∈ TBG := tb_in (tk5 (List.mem_of_getElem? (i := 131) rfl)) rfl
theorem tw_1092 : (Jvm.Cond.methodLink "DustParish" (282 : Nat) yJ7_fill_53178) ∈ TBG := tb_in (tk5 (List.mem_of_getElem? (i := 132) rfl)) rfl
theorem tw_1093 : (Jvm.Cond.methodLink "DustParish" (288 : Nat) yX10_walkTo) ∈ TBG := tb_in (tk5 (List.mem_of_getElem? (i := 133) rfl)) rfl
theorem tw_1095 : (Jvm.Cond.instanceMethod yX10_walkTo) ∈ TBG := tb_in (tk5 (List.mem_of_getElem? (i := 135) rfl)) rfl
theorem tw_1096 : (Jvm.Cond.code yX10_walkTo cX10_walkTo (8 : Nat) (Option.some Jvm.ClassFile.FieldType.int)) ∈ TBG := tb_in (tk5 (List.mem_of_getElem? (i := 136) rfl)) rfl
theorem tw_1097 : (Jvm.Cond.methodLink "DustParish" (279 : Nat) yX10_shorter) ∈ TBG := tb_in (tk5 (List.mem_of_getElem? (i := 137) rfl)) rfl
theorem tw_1098 : (Jvm.Cond.methodLink "DustParishLaw" (187 : Nat) yL_shares) ∈ TBG := tb_in (tk5 (List.mem_of_getElem? (i := 138) rfl)) rfl
theorem tw_1099 : (Jvm.Cond.static yL_shares) ∈ TBG := tb_in (tk5 (List.mem_of_getElem? (i := 139) rfl)) rfl
theorem tw_1100 : (Jvm.Cond.codeWith yL_shares method_18_code (4 : Nat) (Option.some Jvm.ClassFile.FieldType.int) [((0 : Nat), (9 : Nat), (12 : Nat), (13 : Nat))]) ∈ TBG := tb_in (tk5 (List.mem_of_getElem? (i := 140) rfl)) rfl
theorem tw_1101 : (Jvm.Cond.methodLink "DustParishLaw" (61 : Nat) yX10_shares) ∈ TBG := tb_in (tk5 (List.mem_of_getElem? (i := 141) rfl)) rfl
theorem tw_1102 : (Jvm.Cond.instanceMethod yX10_shares) ∈ TBG := tb_in (tk5 (List.mem_of_getElem? (i := 142) rfl)) rfl
theorem tw_1103 : (Jvm.Cond.selects "DustParish" yX10_shares yX10_shares) ∈ TBG := tb_in (tk5 (List.mem_of_getElem? (i := 143) rfl)) rfl
theorem tw_1104 : (Jvm.Cond.code yX10_shares cX10_shares (2 : Nat) (Option.some Jvm.ClassFile.FieldType.int)) ∈ TBG := tb_in (tk5 (List.mem_of_getElem? (i := 144) rfl)) rfl
theorem tw_1105 : (Jvm.Cond.methodLink "DustParish" (297 : Nat) yX10_evenest) ∈ TBG := tb_in (tk5 (List.mem_of_getElem? (i := 145) rfl)) rfl
theorem tw_1107 : (Jvm.Cond.instanceMethod yX10_evenest) ∈ TBG := tb_in (tk5 (List.mem_of_getElem? (i := 147) rfl)) rfl
theorem tw_1108 : (Jvm.Cond.code yX10_evenest cX10_evenest (7 : Nat) (Option.some Jvm.ClassFile.FieldType.int)) ∈ TBG := tb_in (tk5 (List.mem_of_getElem? (i := 148) rfl)) rfl
theorem tw_1109 : (Jvm.Cond.methodLink "DustParish" (300 : Nat) yJ9_max_7cf53) ∈ TBG := tb_in (tk5 (List.mem_of_getElem? (i := 149) rfl)) rfl
theorem tw_1110 : (Jvm.Cond.methodLink "DustParishLaw" (190 : Nat) yL_from) ∈ TBG := tb_in (tk5 (List.mem_of_getElem? (i := 150) rfl)) rfl
theorem tw_1111 : (Jvm.Cond.static yL_from) ∈ TBG := tb_in (tk5 (List.mem_of_getElem? (i := 151) rfl)) rfl
theorem tw_1112 : (Jvm.Cond.codeWith yL_from method_19_code (6 : Nat) (Option.some Jvm.ClassFile.FieldType.int) [((0 : Nat), (12 : Nat), (15 : Nat), (18 : Nat)), ((0 : Nat), (12 : Nat), (19 : Nat), (13 : Nat))]) ∈ TBG := tb_in (tk5 (List.mem_of_getElem? (i := 152) rfl)) rfl
theorem tw_1113 : (Jvm.Cond.methodLink "DustParishLaw" (64 : Nat) yX10_from) ∈ TBG := tb_in (tk5 (List.mem_of_getElem? (i := 153) rfl)) rfl
theorem tw_1114 : (Jvm.Cond.instanceMethod yX10_from) ∈ TBG := tb_in (tk5 (List.mem_of_getElem? (i := 154) rfl)) rfl
theorem tw_1115 : (Jvm.Cond.selects "DustParish" yX10_from yX10_from) ∈ TBG := tb_in (tk5 (List.mem_of_getElem? (i := 155) rfl)) rfl
theorem tw_1116 : (Jvm.Cond.code yX10_from cX10_from (5 : Nat) (Option.some Jvm.ClassFile.FieldType.int)) ∈ TBG := tb_in (tk5 (List.mem_of_getElem? (i := 156) rfl)) rfl
theorem tw_1117 : (Jvm.Cond.methodLink "DustParish" (303 : Nat) yX10_carryGrains) ∈ TBG := tb_in (tk5 (List.mem_of_getElem? (i := 157) rfl)) rfl
theorem tw_1119 : (Jvm.Cond.instanceMethod yX10_carryGrains) ∈ TBG := tb_in (tk5 (List.mem_of_getElem? (i := 159) rfl)) rfl
theorem tw_1120 : (Jvm.Cond.code yX10_carryGrains cX10_carryGrains (5 : Nat) (Option.none : Option Jvm.ClassFile.FieldType)) ∈ TBG := tb_in (tk5 (List.mem_of_getElem? (i := 160) rfl)) rfl
theorem tw_1121 : (Jvm.Cond.methodLink "DustParish" (306 : Nat) yX2_arrives) ∈ TBG := tb_in (tk5 (List.mem_of_getElem? (i := 161) rfl)) rfl
theorem tw_1122 : (Jvm.Cond.methodLink "DustParishLaw" (193 : Nat) yL_poorest) ∈ TBG := tb_in (tk5 (List.mem_of_getElem? (i := 162) rfl)) rfl
theorem tw_1123 : (Jvm.Cond.static yL_poorest) ∈ TBG := tb_in (tk5 (List.mem_of_getElem? (i := 163) rfl)) rfl
theorem tw_1124 : (Jvm.Cond.codeWith yL_poorest method_20_code (4 : Nat) (Option.some Jvm.ClassFile.FieldType.int) [((0 : Nat), (9 : Nat), (12 : Nat), (13 : Nat))]) ∈ TBG := tb_in (tk5 (List.mem_of_getElem? (i := 164) rfl)) rfl
theorem tw_1125 : (Jvm.Cond.methodLink "DustParishLaw" (67 : Nat) yX10_poorest) ∈ TBG := tb_in (tk5 (List.mem_of_getElem? (i := 165) rfl)) rfl
theorem tw_1126 : (Jvm.Cond.instanceMethod yX10_poorest) ∈ TBG := tb_in (tk5 (List.mem_of_getElem? (i := 166) rfl)) rfl
theorem tw_1127 : (Jvm.Cond.selects "DustParish" yX10_poorest yX10_poorest) ∈ TBG := tb_in (tk5 (List.mem_of_getElem? (i := 167) rfl)) rfl
theorem tw_1128 : (Jvm.Cond.code yX10_poorest cX10_poorest (4 : Nat) (Option.some Jvm.ClassFile.FieldType.int)) ∈ TBG := tb_in (tk5 (List.mem_of_getElem? (i := 168) rfl)) rfl
theorem tw_1129 : (Jvm.Cond.methodLink "DustParishLaw" (196 : Nat) yL_fullest) ∈ TBG := tb_in (tk5 (List.mem_of_getElem? (i := 169) rfl)) rfl
theorem tw_1130 : (Jvm.Cond.static yL_fullest) ∈ TBG := tb_in (tk5 (List.mem_of_getElem? (i := 170) rfl)) rfl
theorem tw_1131 : (Jvm.Cond.codeWith yL_fullest method_21_code (4 : Nat) (Option.some Jvm.ClassFile.FieldType.int) [((0 : Nat), (9 : Nat), (12 : Nat), (13 : Nat))]) ∈ TBG := tb_in (tk5 (List.mem_of_getElem? (i := 171) rfl)) rfl
theorem tw_1132 : (Jvm.Cond.methodLink "DustParishLaw" (70 : Nat) yX10_fullest) ∈ TBG := tb_in (tk5 (List.mem_of_getElem? (i := 172) rfl)) rfl
theorem tw_1133 : (Jvm.Cond.instanceMethod yX10_fullest) ∈ TBG := tb_in (tk5 (List.mem_of_getElem? (i := 173) rfl)) rfl
theorem tw_1134 : (Jvm.Cond.selects "DustParish" yX10_fullest yX10_fullest) ∈ TBG := tb_in (tk5 (List.mem_of_getElem? (i := 174) rfl)) rfl
theorem tw_1135 : (Jvm.Cond.code yX10_fullest cX10_fullest (6 : Nat) (Option.some Jvm.ClassFile.FieldType.int)) ∈ TBG := tb_in (tk5 (List.mem_of_getElem? (i := 175) rfl)) rfl
theorem tw_1136 : (Jvm.Cond.methodLink "DustParishLaw" (199 : Nat) yL_change) ∈ TBG := tb_in (tk5 (List.mem_of_getElem? (i := 176) rfl)) rfl
theorem tw_1137 : (Jvm.Cond.static yL_change) ∈ TBG := tb_in (tk5 (List.mem_of_getElem? (i := 177) rfl)) rfl
theorem tw_1138 : (Jvm.Cond.codeWith yL_change method_22_code (4 : Nat) (Option.some Jvm.ClassFile.FieldType.int) [((0 : Nat), (9 : Nat), (12 : Nat), (13 : Nat))]) ∈ TBG := tb_in (tk5 (List.mem_of_getElem? (i := 178) rfl)) rfl
theorem tw_1139 : (Jvm.Cond.methodLink "DustParishLaw" (73 : Nat) yX10_change) ∈ TBG := tb_in (tk5 (List.mem_of_getElem? (i := 179) rfl)) rfl
theorem tw_1140 : (Jvm.Cond.instanceMethod yX10_change) ∈ TBG := tb_in (tk5 (List.mem_of_getElem? (i := 180) rfl)) rfl
theorem tw_1141 : (Jvm.Cond.selects "DustParish" yX10_change yX10_change) ∈ TBG := tb_in (tk5 (List.mem_of_getElem? (i := 181) rfl)) rfl
theorem tw_1142 : (Jvm.Cond.code yX10_change cX10_change (6 : Nat) (Option.some Jvm.ClassFile.FieldType.int)) ∈ TBG := tb_in (tk5 (List.mem_of_getElem? (i := 182) rfl)) rfl
theorem tw_1143 : (Jvm.Cond.methodLink "DustParish" (244 : Nat) yX10_tryChange) ∈ TBG := tb_in (tk5 (List.mem_of_getElem? (i := 183) rfl)) rfl
theorem tw_1145 : (Jvm.Cond.instanceMethod yX10_tryChange) ∈ TBG := tb_in (tk5 (List.mem_of_getElem? (i := 185) rfl)) rfl
theorem tw_1146 : (Jvm.Cond.code yX10_tryChange cX10_tryChange (5 : Nat) (Option.none : Option Jvm.ClassFile.FieldType)) ∈ TBG := tb_in (tk5 (List.mem_of_getElem? (i := 186) rfl)) rfl
theorem tw_1147 : (Jvm.Cond.methodLink "DustParishLaw" (202 : Nat) yL_lend) ∈ TBG := tb_in (tk5 (List.mem_of_getElem? (i := 187) rfl)) rfl
theorem tw_1148 : (Jvm.Cond.static yL_lend) ∈ TBG := tb_in (tk5 (List.mem_of_getElem? (i := 188) rfl)) rfl
theorem tw_1149 : (Jvm.Cond.codeWith yL_lend method_23_code (4 : Nat) (Option.some Jvm.ClassFile.FieldType.int) [((0 : Nat), (9 : Nat), (12 : Nat), (18 : Nat))]) ∈ TBG := tb_in (tk5 (List.mem_of_getElem? (i := 189) rfl)) rfl
theorem tw_1150 : (Jvm.Cond.methodLink "DustParishLaw" (76 : Nat) yX10_lend) ∈ TBG := tb_in (tk5 (List.mem_of_getElem? (i := 190) rfl)) rfl
theorem tw_1151 : (Jvm.Cond.instanceMethod yX10_lend) ∈ TBG := tb_in (tk5 (List.mem_of_getElem? (i := 191) rfl)) rfl
theorem tw_1152 : (Jvm.Cond.selects "DustParish" yX10_lend yX10_lend) ∈ TBG := tb_in (tk5 (List.mem_of_getElem? (i := 192) rfl)) rfl
theorem tw_1153 : (Jvm.Cond.code yX10_lend cX10_lend (4 : Nat) (Option.some Jvm.ClassFile.FieldType.int)) ∈ TBG := tb_in (tk5 (List.mem_of_getElem? (i := 193) rfl)) rfl
theorem tw_1154 : (Jvm.Cond.methodLink "DustParishLaw" (205 : Nat) yL_often) ∈ TBG := tb_in (tk5 (List.mem_of_getElem? (i := 194) rfl)) rfl
theorem tw_1155 : (Jvm.Cond.static yL_often) ∈ TBG := tb_in (tk5 (List.mem_of_getElem? (i := 195) rfl)) rfl
theorem tw_1156 : (Jvm.Cond.codeWith yL_often method_24_code (4 : Nat) (Option.some Jvm.ClassFile.FieldType.int) [((0 : Nat), (9 : Nat), (12 : Nat), (13 : Nat))]) ∈ TBG := tb_in (tk5 (List.mem_of_getElem? (i := 196) rfl)) rfl
theorem tw_1157 : (Jvm.Cond.methodLink "DustParishLaw" (79 : Nat) yX10_often) ∈ TBG := tb_in (tk5 (List.mem_of_getElem? (i := 197) rfl)) rfl
theorem tw_1158 : (Jvm.Cond.instanceMethod yX10_often) ∈ TBG := tb_in (tk5 (List.mem_of_getElem? (i := 198) rfl)) rfl
theorem tw_1159 : (Jvm.Cond.selects "DustParish" yX10_often yX10_often) ∈ TBG := tb_in (tk5 (List.mem_of_getElem? (i := 199) rfl)) rfl
theorem tw_1160 : (Jvm.Cond.code yX10_often cX10_often (6 : Nat) (Option.some Jvm.ClassFile.FieldType.int)) ∈ TBG := tb_in (tk5 (List.mem_of_getElem? (i := 200) rfl)) rfl
theorem tw_1161 : (Jvm.Cond.methodLink "DustParishLaw" (208 : Nat) yL_riches) ∈ TBG := tb_in (tk5 (List.mem_of_getElem? (i := 201) rfl)) rfl
theorem tw_1162 : (Jvm.Cond.static yL_riches) ∈ TBG := tb_in (tk5 (List.mem_of_getElem? (i := 202) rfl)) rfl
theorem tw_1163 : (Jvm.Cond.codeWith yL_riches method_25_code (4 : Nat) (Option.some Jvm.ClassFile.FieldType.int) [((0 : Nat), (9 : Nat), (12 : Nat), (18 : Nat))]) ∈ TBG := tb_in (tk5 (List.mem_of_getElem? (i := 203) rfl)) rfl
theorem tw_1164 : (Jvm.Cond.methodLink "DustParishLaw" (82 : Nat) yX10_riches) ∈ TBG := tb_in (tk5 (List.mem_of_getElem? (i := 204) rfl)) rfl
theorem tw_1165 : (Jvm.Cond.instanceMethod yX10_riches) ∈ TBG := tb_in (tk5 (List.mem_of_getElem? (i := 205) rfl)) rfl
theorem tw_1166 : (Jvm.Cond.selects "DustParish" yX10_riches yX10_riches) ∈ TBG := tb_in (tk5 (List.mem_of_getElem? (i := 206) rfl)) rfl
theorem tw_1167 : (Jvm.Cond.code yX10_riches cX10_riches (4 : Nat) (Option.some Jvm.ClassFile.FieldType.int)) ∈ TBG := tb_in (tk5 (List.mem_of_getElem? (i := 207) rfl)) rfl
theorem tw_1168 : (Jvm.Cond.methodLink "DustParishLaw" (211 : Nat) yL_lost) ∈ TBG := tb_in (tk5 (List.mem_of_getElem? (i := 208) rfl)) rfl
theorem tw_1169 : (Jvm.Cond.static yL_lost) ∈ TBG := tb_in (tk5 (List.mem_of_getElem? (i := 209) rfl)) rfl
theorem tw_1170 : (Jvm.Cond.codeWith yL_lost method_26_code (4 : Nat) (Option.some Jvm.ClassFile.FieldType.int) [((0 : Nat), (9 : Nat), (12 : Nat), (13 : Nat))]) ∈ TBG := tb_in (tk5 (List.mem_of_getElem? (i := 210) rfl)) rfl
theorem tw_1171 : (Jvm.Cond.methodLink "DustParishLaw" (85 : Nat) yX10_lost) ∈ TBG := tb_in (tk5 (List.mem_of_getElem? (i := 211) rfl)) rfl
theorem tw_1172 : (Jvm.Cond.instanceMethod yX10_lost) ∈ TBG := tb_in (tk5 (List.mem_of_getElem? (i := 212) rfl)) rfl
theorem tw_1173 : (Jvm.Cond.selects "DustParish" yX10_lost yX10_lost) ∈ TBG := tb_in (tk5 (List.mem_of_getElem? (i := 213) rfl)) rfl
theorem tw_1174 : (Jvm.Cond.code yX10_lost cX10_lost (4 : Nat) (Option.some Jvm.ClassFile.FieldType.int)) ∈ TBG := tb_in (tk5 (List.mem_of_getElem? (i := 214) rfl)) rfl
theorem tw_1175 : (Jvm.Cond.methodLink "DustParish" (251 : Nat) yX2_comesTo) ∈ TBG := tb_in (tk5 (List.mem_of_getElem? (i := 215) rfl)) rfl
theorem tw_1176 : (Jvm.Cond.methodLink "DustParishLaw" (214 : Nat) yL_see) ∈ TBG := tb_in (tk5 (List.mem_of_getElem? (i := 216) rfl)) rfl
theorem tw_1177 : (Jvm.Cond.static yL_see) ∈ TBG := tb_in (tk5 (List.mem_of_getElem? (i := 217) rfl)) rfl
theorem tw_1178 : (Jvm.Cond.codeWith yL_see method_27_code (6 : Nat) (Option.some Jvm.ClassFile.FieldType.int) [((0 : Nat), (12 : Nat), (15 : Nat), (18 : Nat))]) ∈ TBG := tb_in (tk5 (List.mem_of_getElem? (i := 218) rfl)) rfl
theorem tw_1179 : (Jvm.Cond.methodLink "DustParishLaw" (88 : Nat) yX10_see) ∈ TBG := tb_in (tk5 (List.mem_of_getElem? (i := 219) rfl)) rfl
theorem tw_1180 : (Jvm.Cond.instanceMethod yX10_see) ∈ TBG := tb_in (tk5 (List.mem_of_getElem? (i := 220) rfl)) rfl
theorem tw_1181 : (Jvm.Cond.selects "DustParish" yX10_see yX10_see) ∈ TBG := tb_in (tk5 (List.mem_of_getElem? (i := 221) rfl)) rfl
theorem tw_1182 : (Jvm.Cond.code yX10_see cX10_see (4 : Nat) (Option.some Jvm.ClassFile.FieldType.int)) ∈ TBG := tb_in (tk5 (List.mem_of_getElem? (i := 222) rfl)) rfl
theorem tw_1183 : (Jvm.Cond.methodLink "DustParish" (309 : Nat) yX7_add) ∈ TBG := tb_in (tk5 (List.mem_of_getElem? (i := 223) rfl)) rfl
theorem tw_1184 : (Jvm.Cond.instanceMethod yX7_add) ∈ TBG := tb_in (tk5 (List.mem_of_getElem? (i := 224) rfl)) rfl
theorem tw_1185 : (Jvm.Cond.selects "DustParish$Sights" yX7_add yX7_add) ∈ TBG := tb_in (tk5 (List.mem_of_getElem? (i := 225) rfl)) rfl
theorem tw_1186 : (Jvm.Cond.code yX7_add cX7_add (4 : Nat) (Option.none : Option Jvm.ClassFile.FieldType)) ∈ TBG := tb_in (tk5 (List.mem_of_getElem? (i := 226) rfl)) rfl
theorem tw_1187 : (Jvm.Cond.methodLink "DustParishLaw" (217 : Nat) yL_hand) ∈ TBG := tb_in (tk5 (List.mem_of_getElem? (i := 227) rfl)) rfl
theorem tw_1188 : (Jvm.Cond.static yL_hand) ∈ TBG := tb_in (tk5 (List.mem_of_getElem? (i := 228) rfl)) rfl
theorem tw_1189 : (Jvm.Cond.codeWith yL_hand method_28_code (4 : Nat) (Option.some Jvm.ClassFile.FieldType.int) [((0 : Nat), (9 : Nat), (12 : Nat), (18 : Nat))]) ∈ TBG := tb_in (tk5 (List.mem_of_getElem? (i := 229) rfl)) rfl
theorem tw_1190 : (Jvm.Cond.methodLink "DustParishLaw" (91 : Nat) yX10_hand) ∈ TBG := tb_in (tk5 (List.mem_of_getElem? (i := 230) rfl)) rfl
theorem tw_1191 : (Jvm.Cond.instanceMethod yX10_hand) ∈ TBG := tb_in (tk5 (List.mem_of_getElem? (i := 231) rfl)) rfl
theorem tw_1192 : (Jvm.Cond.selects "DustParish" yX10_hand yX10_hand) ∈ TBG := tb_in (tk5 (List.mem_of_getElem? (i := 232) rfl)) rfl
theorem tw_1193 : (Jvm.Cond.code yX10_hand cX10_hand (6 : Nat) (Option.some Jvm.ClassFile.FieldType.int)) ∈ TBG := tb_in (tk5 (List.mem_of_getElem? (i := 233) rfl)) rfl
theorem tw_1194 : (Jvm.Cond.methodLink "DustParish" (312 : Nat) yX10_wouldBeSo) ∈ TBG := tb_in (tk5 (List.mem_of_getElem? (i := 234) rfl)) rfl
theorem tw_1196 : (Jvm.Cond.instanceMethod yX10_wouldBeSo) ∈ TBG := tb_in (tk5 (List.mem_of_getElem? (i := 236) rfl)) rfl
theorem tw_1197 : (Jvm.Cond.code yX10_wouldBeSo cX10_wouldBeSo (5 : Nat) (Option.some Jvm.ClassFile.FieldType.boolean)) ∈ TBG := tb_in (tk5 (List.mem_of_getElem? (i := 237) rfl)) rfl
theorem tw_1198 : (Jvm.Cond.methodLink "DustParish" (315 : Nat) yX7_lastDay) ∈ TBG := tb_in (tk5 (List.mem_of_getElem? (i := 238) rfl)) rfl
theorem tw_1199 : (Jvm.Cond.instanceMethod yX7_lastDay) ∈ TBG := tb_in (tk5 (List.mem_of_getElem? (i := 239) rfl)) rfl
theorem tw_1200 : (Jvm.Cond.selects "DustParish$Sights" yX7_lastDay yX7_lastDay) ∈ TBG := tb_in (tk6 (List.mem_of_getElem? (i := 0) rfl)) rfl
theorem tw_1201 : (Jvm.Cond.code yX7_lastDay cX7_lastDay (3 : Nat) (Option.some Jvm.ClassFile.FieldType.int)) ∈ TBG := tb_in (tk6 (List.mem_of_getElem? (i := 1) rfl)) rfl
theorem tw_1202 : (Jvm.Cond.methodLink "DustParish$Sights" (25 : Nat) yJ9_max_7cf53) ∈ TBG := tb_in (tk6 (List.mem_of_getElem? (i := 2) rfl)) rfl
theorem tw_1203 : (Jvm.Cond.methodLink "DustParish" (318 : Nat) yX7_areSo) ∈ TBG := tb_in (tk6 (List.mem_of_getElem? (i := 3) rfl)) rfl
theorem tw_1204 : (Jvm.Cond.instanceMethod yX7_areSo) ∈ TBG := tb_in (tk6 (List.mem_of_getElem? (i := 4) rfl)) rfl
theorem tw_1205 : (Jvm.Cond.selects "DustParish$Sights" yX7_areSo yX7_areSo) ∈ TBG := tb_in (tk6 (List.mem_of_getElem? (i := 5) rfl)) rfl
theorem tw_1206 : (Jvm.Cond.code yX7_areSo cX7_areSo (4 : Nat) (Option.some Jvm.ClassFile.FieldType.boolean)) ∈ TBG := tb_in (tk6 (List.mem_of_getElem? (i := 6) rfl)) rfl
theorem tw_1207 : (Jvm.Cond.methodLink "DustParishLaw" (224 : Nat) yL_game) ∈ TBG := tb_in (tk6 (List.mem_of_getElem? (i := 7) rfl)) rfl
theorem tw_1208 : (Jvm.Cond.static yL_game) ∈ TBG := tb_in (tk6 (List.mem_of_getElem? (i := 8) rfl)) rfl
theorem tw_1209 : (Jvm.Cond.codeWith yL_game method_29_code (6 : Nat) (Option.some Jvm.ClassFile.FieldType.int) [((0 : Nat), (12 : Nat), (15 : Nat), (18 : Nat)), ((0 : Nat), (12 : Nat), (19 : Nat), (13 : Nat))]) ∈ TBG := tb_in (tk6 (List.mem_of_getElem? (i := 9) rfl)) rfl
theorem tw_1210 : (Jvm.Cond.methodLink "DustParishLaw" (94 : Nat) yX10_game) ∈ TBG := tb_in (tk6 (List.mem_of_getElem? (i := 10) rfl)) rfl
theorem tw_1211 : (Jvm.Cond.instanceMethod yX10_game) ∈ TBG := tb_in (tk6 (List.mem_of_getElem? (i := 11) rfl)) rfl
theorem tw_1212 : (Jvm.Cond.selects "DustParish" yX10_game yX10_game) ∈ TBG := tb_in (tk6 (List.mem_of_getElem? (i := 12) rfl)) rfl
theorem tw_1213 : (Jvm.Cond.code yX10_game cX10_game (9 : Nat) (Option.some Jvm.ClassFile.FieldType.int)) ∈ TBG := tb_in (tk6 (List.mem_of_getElem? (i := 13) rfl)) rfl
theorem tw_1214 : (Jvm.Cond.methodLink "DustParish" (322 : Nat) yX10_lowestRoom) ∈ TBG := tb_in (tk6 (List.mem_of_getElem? (i := 14) rfl)) rfl
theorem tw_1216 : (Jvm.Cond.instanceMethod yX10_lowestRoom) ∈ TBG := tb_in (tk6 (List.mem_of_getElem? (i := 16) rfl)) rfl
theorem tw_1217 : (Jvm.Cond.code yX10_lowestRoom cX10_lowestRoom (3 : Nat) (Option.some Jvm.ClassFile.FieldType.int)) ∈ TBG := tb_in (tk6 (List.mem_of_getElem? (i := 17) rfl)) rfl
theorem tw_1218 : (Jvm.Cond.methodLink "DustParish" (325 : Nat) yX10_rests) ∈ TBG := tb_in (tk6 (List.mem_of_getElem? (i := 18) rfl)) rfl
theorem tw_1220 : (Jvm.Cond.instanceMethod yX10_rests) ∈ TBG := tb_in (tk6 (List.mem_of_getElem? (i := 20) rfl)) rfl
theorem tw_1221 : (Jvm.Cond.code yX10_rests cX10_rests (5 : Nat) (Option.some Jvm.ClassFile.FieldType.boolean)) ∈ TBG := tb_in (tk6 (List.mem_of_getElem? (i := 21) rfl)) rfl
theorem tw_1222 : (Jvm.Cond.methodLink "DustParish" (329 : Nat) yX10_lossOf) ∈ TBG := tb_in (tk6 (List.mem_of_getElem? (i := 22) rfl)) rfl
theorem tw_1224 : (Jvm.Cond.instanceMethod yX10_lossOf) ∈ TBG := tb_in (tk6 (List.mem_of_getElem? (i := 24) rfl)) rfl
theorem tw_1225 : (Jvm.Cond.code yX10_lossOf cX10_lossOf (6 : Nat) (Option.some Jvm.ClassFile.FieldType.int)) ∈ TBG := tb_in (tk6 (List.mem_of_getElem? (i := 25) rfl)) rfl
theorem tw_1226 : (Jvm.Cond.methodLink "DustParishLaw" (227 : Nat) yL_years) ∈ TBG := tb_in (tk6 (List.mem_of_getElem? (i := 26) rfl)) rfl
theorem tw_1227 : (Jvm.Cond.static yL_years) ∈ TBG := tb_in (tk6 (List.mem_of_getElem? (i := 27) rfl)) rfl
theorem tw_1228 : (Jvm.Cond.codeWith yL_years method_30_code (6 : Nat) (Option.some Jvm.ClassFile.FieldType.int) [((0 : Nat), (12 : Nat), (15 : Nat), (18 : Nat)), ((0 : Nat), (12 : Nat), (19 : Nat), (13 : Nat))]) ∈ TBG := tb_in (tk6 (List.mem_of_getElem? (i := 28) rfl)) rfl
theorem tw_1229 : (Jvm.Cond.methodLink "DustParishLaw" (97 : Nat) yX10_years) ∈ TBG := tb_in (tk6 (List.mem_of_getElem? (i := 29) rfl)) rfl
theorem tw_1230 : (Jvm.Cond.instanceMethod yX10_years) ∈ TBG := tb_in (tk6 (List.mem_of_getElem? (i := 30) rfl)) rfl
theorem tw_1231 : (Jvm.Cond.selects "DustParish" yX10_years yX10_years) ∈ TBG := tb_in (tk6 (List.mem_of_getElem? (i := 31) rfl)) rfl
theorem tw_1232 : (Jvm.Cond.code yX10_years cX10_years (8 : Nat) (Option.some Jvm.ClassFile.FieldType.int)) ∈ TBG := tb_in (tk6 (List.mem_of_getElem? (i := 32) rfl)) rfl
theorem tw_1233 : (Jvm.Cond.methodLink "DustParish" (333 : Nat) yX10_nextSeed) ∈ TBG := tb_in (tk6 (List.mem_of_getElem? (i := 33) rfl)) rfl
theorem tw_1234 : (Jvm.Cond.static yX10_nextSeed) ∈ TBG := tb_in (tk6 (List.mem_of_getElem? (i := 34) rfl)) rfl
theorem tw_1235 : (Jvm.Cond.code yX10_nextSeed cX10_nextSeed (1 : Nat) (Option.some Jvm.ClassFile.FieldType.int)) ∈ TBG := tb_in (tk6 (List.mem_of_getElem? (i := 35) rfl)) rfl
theorem tw_1236 : (Jvm.Cond.constant "DustParish" (345 : Nat) (1103515245 : Int32)) ∈ TBG := tb_in (tk6 (List.mem_of_getElem? (i := 36) rfl)) rfl
theorem tw_1237 : (Jvm.Cond.methodLink "DustParish" (336 : Nat) yX10_draw) ∈ TBG := tb_in (tk6 (List.mem_of_getElem? (i := 37) rfl)) rfl
theorem tw_1238 : (Jvm.Cond.static yX10_draw) ∈ TBG := tb_in (tk6 (List.mem_of_getElem? (i := 38) rfl)) rfl
theorem tw_1239 : (Jvm.Cond.code yX10_draw cX10_draw (2 : Nat) (Option.some Jvm.ClassFile.FieldType.int)) ∈ TBG := tb_in (tk6 (List.mem_of_getElem? (i := 39) rfl)) rfl
theorem tw_1240 : (Jvm.Cond.methodLink "DustParish" (339 : Nat) yX10_happen) ∈ TBG := tb_in (tk6 (List.mem_of_getElem? (i := 40) rfl)) rfl
theorem tw_1242 : (Jvm.Cond.instanceMethod yX10_happen) ∈ TBG := tb_in (tk6 (List.mem_of_getElem? (i := 42) rfl)) rfl
theorem tw_1243 : (Jvm.Cond.code yX10_happen cX10_happen (4 : Nat) (Option.none : Option Jvm.ClassFile.FieldType)) ∈ TBG := tb_in (tk6 (List.mem_of_getElem? (i := 43) rfl)) rfl
theorem tw_1244 : (Jvm.Cond.methodLink "DustParish" (346 : Nat) yX2_behindFirstDoor) ∈ TBG := tb_in (tk6 (List.mem_of_getElem? (i := 44) rfl)) rfl
theorem tw_1245 : (Jvm.Cond.instanceMethod yX2_behindFirstDoor) ∈ TBG := tb_in (tk6 (List.mem_of_getElem? (i := 45) rfl)) rfl
theorem tw_1246 : (Jvm.Cond.selects "DustParish$Facts" yX2_behindFirstDoor yX2_behindFirstDoor) ∈ TBG := tb_in (tk6 (List.mem_of_getElem? (i := 46) rfl)) rfl
theorem tw_1247 : (Jvm.Cond.code yX2_behindFirstDoor cX2_behindFirstDoor (3 : Nat) (Option.some Jvm.ClassFile.FieldType.int)) ∈ TBG := tb_in (tk6 (List.mem_of_getElem? (i := 47) rfl)) rfl
theorem tw_1248 : (Jvm.Cond.methodLink "DustParish" (342 : Nat) yX10_fullestTrialRoom) ∈ TBG := tb_in (tk6 (List.mem_of_getElem? (i := 48) rfl)) rfl
theorem tw_1250 : (Jvm.Cond.instanceMethod yX10_fullestTrialRoom) ∈ TBG := tb_in (tk6 (List.mem_of_getElem? (i := 50) rfl)) rfl
theorem tw_1251 : (Jvm.Cond.code yX10_fullestTrialRoom cX10_fullestTrialRoom (3 : Nat) (Option.some Jvm.ClassFile.FieldType.int)) ∈ TBG := tb_in (tk6 (List.mem_of_getElem? (i := 51) rfl)) rfl
theorem tw_1252 : (Jvm.Cond.classLink "DustParishLaw" (101 : Nat) "DustParishModel") ∈ TBG := tb_in (tk6 (List.mem_of_getElem? (i := 52) rfl)) rfl
theorem tw_1253 : (Jvm.Cond.instantiable "DustParishModel" (63 : Nat)) ∈ TBG := tb_in (tk6 (List.mem_of_getElem? (i := 53) rfl)) rfl
theorem tw_1254 : (Jvm.Cond.methodLink "DustParishLaw" (103 : Nat) yX11_init) ∈ TBG := tb_in (tk6 (List.mem_of_getElem? (i := 54) rfl)) rfl
theorem tw_1255 : (Jvm.Cond.instanceMethod yX11_init) ∈ TBG := tb_in (tk6 (List.mem_of_getElem? (i := 55) rfl)) rfl
theorem tw_1256 : (Jvm.Cond.code yX11_init cX11_init (1 : Nat) (Option.none : Option Jvm.ClassFile.FieldType)) ∈ TBG := tb_in (tk6 (List.mem_of_getElem? (i := 56) rfl)) rfl
theorem tw_1257 : (Jvm.Cond.methodLink "DustParishModel" (3 : Nat) ({ cls := "java/lang/Object", name := "<init>", desc := "()V" } : Jvm.MethodName)) ∈ TBG := tb_in (tk6 (List.mem_of_getElem? (i := 57) rfl)) rfl
theorem tw_1258 : (Jvm.Cond.classLink "DustParishModel" (9 : Nat) "java/lang/String") ∈ TBG := tb_in (tk6 (List.mem_of_getElem? (i := 58) rfl)) rfl
theorem tw_1269 : (Jvm.Cond.fieldLink "DustParishModel" (17 : Nat) "DustParishModel" "kinds" "[Ljava/lang/String;") ∈ TBG := tb_in (tk6 (List.mem_of_getElem? (i := 69) rfl)) rfl
theorem tw_1270 : (Jvm.Cond.fieldLink "DustParishModel" (33 : Nat) "DustParishModel" "values" "[Ljava/lang/String;") ∈ TBG := tb_in (tk6 (List.mem_of_getElem? (i := 70) rfl)) rfl
theorem tw_1271 : (Jvm.Cond.fieldLink "DustParishModel" (157 : Nat) "DustParishModel" "code" "I") ∈ TBG := tb_in (tk6 (List.mem_of_getElem? (i := 71) rfl)) rfl
theorem tw_1272 : (Jvm.Cond.fieldLink "DustParishModel" (36 : Nat) "DustParishModel" "told" "[I") ∈ TBG := tb_in (tk6 (List.mem_of_getElem? (i := 72) rfl)) rfl
theorem tw_1273 : (Jvm.Cond.fieldLink "DustParishModel" (40 : Nat) "DustParishModel" "kind" "[I") ∈ TBG := tb_in (tk6 (List.mem_of_getElem? (i := 73) rfl)) rfl
theorem tw_1274 : (Jvm.Cond.fieldLink "DustParishModel" (42 : Nat) "DustParishModel" "owner" "[I") ∈ TBG := tb_in (tk6 (List.mem_of_getElem? (i := 74) rfl)) rfl
theorem tw_1275 : (Jvm.Cond.fieldLink "DustParishModel" (44 : Nat) "DustParishModel" "dustTold" "[I") ∈ TBG := tb_in (tk6 (List.mem_of_getElem? (i := 75) rfl)) rfl
theorem tw_1276 : (Jvm.Cond.fieldLink "DustParishModel" (47 : Nat) "DustParishModel" "settles" "[I") ∈ TBG := tb_in (tk6 (List.mem_of_getElem? (i := 76) rfl)) rfl
theorem tw_1277 : (Jvm.Cond.fieldLink "DustParishModel" (50 : Nat) "DustParishModel" "doorA" "[I") ∈ TBG := tb_in (tk6 (List.mem_of_getElem? (i := 77) rfl)) rfl
theorem tw_1278 : (Jvm.Cond.fieldLink "DustParishModel" (53 : Nat) "DustParishModel" "doorB" "[I") ∈ TBG := tb_in (tk6 (List.mem_of_getElem? (i := 78) rfl)) rfl
theorem tw_1279 : (Jvm.Cond.fieldLink "DustParishModel" (56 : Nat) "DustParishModel" "steps" "[I") ∈ TBG := tb_in (tk6 (List.mem_of_getElem? (i := 79) rfl)) rfl
theorem tw_1280 : (Jvm.Cond.fieldLink "DustParishModel" (59 : Nat) "DustParishModel" "blows" "[I") ∈ TBG := tb_in (tk6 (List.mem_of_getElem? (i := 80) rfl)) rfl
theorem tw_1281 : (Jvm.Cond.fieldLink "DustParishModel" (62 : Nat) "DustParishModel" "blowFrom" "[I") ∈ TBG := tb_in (tk6 (List.mem_of_getElem? (i := 81) rfl)) rfl
theorem tw_1282 : (Jvm.Cond.fieldLink "DustParishModel" (65 : Nat) "DustParishModel" "blowTo" "[I") ∈ TBG := tb_in (tk6 (List.mem_of_getElem? (i := 82) rfl)) rfl
theorem tw_1283 : (Jvm.Cond.fieldLink "DustParishModel" (68 : Nat) "DustParishModel" "blowBy" "[I") ∈ TBG := tb_in (tk6 (List.mem_of_getElem? (i := 83) rfl)) rfl
theorem tw_1284 : (Jvm.Cond.fieldLink "DustParishModel" (71 : Nat) "DustParishModel" "calendarTold" "[I") ∈ TBG := tb_in (tk6 (List.mem_of_getElem? (i := 84) rfl)) rfl
theorem tw_1285 : (Jvm.Cond.fieldLink "DustParishModel" (74 : Nat) "DustParishModel" "signs" "[I") ∈ TBG := tb_in (tk6 (List.mem_of_getElem? (i := 85) rfl)) rfl
theorem tw_1286 : (Jvm.Cond.fieldLink "DustParishModel" (77 : Nat) "DustParishModel" "status" "[I") ∈ TBG := tb_in (tk6 (List.mem_of_getElem? (i := 86) rfl)) rfl
theorem tw_1287 : (Jvm.Cond.fieldLink "DustParishModel" (80 : Nat) "DustParishModel" "tape" "[I") ∈ TBG := tb_in (tk6 (List.mem_of_getElem? (i := 87) rfl)) rfl
theorem tw_1288 : (Jvm.Cond.fieldLink "DustParishModel" (166 : Nat) "DustParishModel" "taped" "I") ∈ TBG := tb_in (tk6 (List.mem_of_getElem? (i := 88) rfl)) rfl
theorem tw_1289 : (Jvm.Cond.fieldLink "DustParishModel" (172 : Nat) "DustParishModel" "at" "I") ∈ TBG := tb_in (tk6 (List.mem_of_getElem? (i := 89) rfl)) rfl
theorem tw_1290 : (Jvm.Cond.fieldLink "DustParishModel" (169 : Nat) "DustParishModel" "size" "I") ∈ TBG := tb_in (tk6 (List.mem_of_getElem? (i := 90) rfl)) rfl
theorem tw_1291 : (Jvm.Cond.fieldLink "DustParishModel" (182 : Nat) "DustParishModel" "token" "I") ∈ TBG := tb_in (tk6 (List.mem_of_getElem? (i := 91) rfl)) rfl
theorem tw_1292 : (Jvm.Cond.fieldLink "DustParishModel" (192 : Nat) "DustParishModel" "number" "I") ∈ TBG := tb_in (tk6 (List.mem_of_getElem? (i := 92) rfl)) rfl
theorem tw_1293 : (Jvm.Cond.fieldLink "DustParishModel" (179 : Nat) "DustParishModel" "begins" "I") ∈ TBG := tb_in (tk6 (List.mem_of_getElem? (i := 93) rfl)) rfl
theorem tw_1294 : (Jvm.Cond.fieldLink "DustParishModel" (205 : Nat) "DustParishModel" "stops" "I") ∈ TBG := tb_in (tk6 (List.mem_of_getElem? (i := 94) rfl)) rfl
theorem tw_1295 : (Jvm.Cond.fieldLink "DustParishModel" (208 : Nat) "DustParishModel" "bad" "I") ∈ TBG := tb_in (tk6 (List.mem_of_getElem? (i := 95) rfl)) rfl
theorem tw_1296 : (Jvm.Cond.fieldLink "DustParishModel" (211 : Nat) "DustParishModel" "badPlace" "I") ∈ TBG := tb_in (tk6 (List.mem_of_getElem? (i := 96) rfl)) rfl
theorem tw_1297 : (Jvm.Cond.fieldLink "DustParishModel" (83 : Nat) "DustParishModel" "faultPlace" "I") ∈ TBG := tb_in (tk6 (List.mem_of_getElem? (i := 97) rfl)) rfl
theorem tw_1298 : (Jvm.Cond.fieldLink "DustParishModel" (87 : Nat) "DustParishModel" "dust" "[I") ∈ TBG := tb_in (tk6 (List.mem_of_getElem? (i := 98) rfl)) rfl
theorem tw_1299 : (Jvm.Cond.fieldLink "DustParishModel" (89 : Nat) "DustParishModel" "brought" "[I") ∈ TBG := tb_in (tk6 (List.mem_of_getElem? (i := 99) rfl)) rfl
theorem tw_1300 : (Jvm.Cond.fieldLink "DustParishModel" (91 : Nat) "DustParishModel" "calendar" "[I") ∈ TBG := tb_in (tk6 (List.mem_of_getElem? (i := 100) rfl)) rfl
theorem tw_1301 : (Jvm.Cond.fieldLink "DustParishModel" (94 : Nat) "DustParishModel" "past" "[I") ∈ TBG := tb_in (tk6 (List.mem_of_getElem? (i := 101) rfl)) rfl
theorem tw_1302 : (Jvm.Cond.fieldLink "DustParishModel" (333 : Nat) "DustParishModel" "day" "I") ∈ TBG := tb_in (tk6 (List.mem_of_getElem? (i := 102) rfl)) rfl
theorem tw_1303 : (Jvm.Cond.fieldLink "DustParishModel" (335 : Nat) "DustParishModel" "taken" "I") ∈ TBG := tb_in (tk6 (List.mem_of_getElem? (i := 103) rfl)) rfl
theorem tw_1304 : (Jvm.Cond.fieldLink "DustParishModel" (338 : Nat) "DustParishModel" "stolen" "I") ∈ TBG := tb_in (tk6 (List.mem_of_getElem? (i := 104) rfl)) rfl
theorem tw_1305 : (Jvm.Cond.fieldLink "DustParishModel" (341 : Nat) "DustParishModel" "acts" "I") ∈ TBG := tb_in (tk6 (List.mem_of_getElem? (i := 105) rfl)) rfl
theorem tw_1306 : (Jvm.Cond.fieldLink "DustParishModel" (344 : Nat) "DustParishModel" "seen" "I") ∈ TBG := tb_in (tk6 (List.mem_of_getElem? (i := 106) rfl)) rfl
theorem tw_1307 : (Jvm.Cond.fieldLink "DustParishModel" (97 : Nat) "DustParishModel" "asked" "[I") ∈ TBG := tb_in (tk6 (List.mem_of_getElem? (i := 107) rfl)) rfl
theorem tw_1308 : (Jvm.Cond.fieldLink "DustParishModel" (100 : Nat) "DustParishModel" "stack" "[I") ∈ TBG := tb_in (tk6 (List.mem_of_getElem? (i := 108) rfl)) rfl
theorem tw_1309 : (Jvm.Cond.fieldLink "DustParishModel" (103 : Nat) "DustParishModel" "tithes" "[I") ∈ TBG := tb_in (tk6 (List.mem_of_getElem? (i := 109) rfl)) rfl
theorem tw_1310 : (Jvm.Cond.fieldLink "DustParishModel" (106 : Nat) "DustParishModel" "ways" "[I") ∈ TBG := tb_in (tk6 (List.mem_of_getElem? (i := 110) rfl)) rfl
theorem tw_1311 : (Jvm.Cond.fieldLink "DustParishModel" (109 : Nat) "DustParishModel" "rowThen" "[I") ∈ TBG := tb_in (tk6 (List.mem_of_getElem? (i := 111) rfl)) rfl
theorem tw_1312 : (Jvm.Cond.fieldLink "DustParishModel" (112 : Nat) "DustParishModel" "order" "[I") ∈ TBG := tb_in (tk6 (List.mem_of_getElem? (i := 112) rfl)) rfl
theorem tw_1313 : (Jvm.Cond.fieldLink "DustParishModel" (115 : Nat) "DustParishModel" "bestOrder" "[I") ∈ TBG := tb_in (tk6 (List.mem_of_getElem? (i := 113) rfl)) rfl
theorem tw_1314 : (Jvm.Cond.fieldLink "DustParishModel" (442 : Nat) "DustParishModel" "mostByOrder" "I") ∈ TBG := tb_in (tk6 (List.mem_of_getElem? (i := 114) rfl)) rfl
theorem tw_1315 : (Jvm.Cond.fieldLink "DustParishModel" (118 : Nat) "DustParishModel" "rounds" "[I") ∈ TBG := tb_in (tk6 (List.mem_of_getElem? (i := 115) rfl)) rfl
theorem tw_1316 : (Jvm.Cond.fieldLink "DustParishModel" (121 : Nat) "DustParishModel" "loads" "[I") ∈ TBG := tb_in (tk6 (List.mem_of_getElem? (i := 116) rfl)) rfl
theorem tw_1317 : (Jvm.Cond.fieldLink "DustParishModel" (124 : Nat) "DustParishModel" "grain" "[I") ∈ TBG := tb_in (tk6 (List.mem_of_getElem? (i := 117) rfl)) rfl
theorem tw_1318 : (Jvm.Cond.fieldLink "DustParishModel" (127 : Nat) "DustParishModel" "seenRoom" "[I") ∈ TBG := tb_in (tk6 (List.mem_of_getElem? (i := 118) rfl)) rfl
theorem tw_1319 : (Jvm.Cond.fieldLink "DustParishModel" (130 : Nat) "DustParishModel" "seenDays" "[I") ∈ TBG := tb_in (tk6 (List.mem_of_getElem? (i := 119) rfl)) rfl
theorem tw_1320 : (Jvm.Cond.fieldLink "DustParishModel" (133 : Nat) "DustParishModel" "seenMuch" "[I") ∈ TBG := tb_in (tk6 (List.mem_of_getElem? (i := 120) rfl)) rfl
theorem tw_1321 : (Jvm.Cond.fieldLink "DustParishModel" (136 : Nat) "DustParishModel" "rowSeen" "[I") ∈ TBG := tb_in (tk6 (List.mem_of_getElem? (i := 121) rfl)) rfl
theorem tw_1322 : (Jvm.Cond.fieldLink "DustParishModel" (474 : Nat) "DustParishModel" "seedNow" "I") ∈ TBG := tb_in (tk6 (List.mem_of_getElem? (i := 122) rfl)) rfl
theorem tw_1323 : (Jvm.Cond.fieldLink "DustParishModel" (347 : Nat) "DustParishModel" "hasImage" "Z") ∈ TBG := tb_in (tk6 (List.mem_of_getElem? (i := 123) rfl)) rfl
theorem tw_1324 : (Jvm.Cond.fieldLink "DustParishModel" (489 : Nat) "DustParishModel" "actsThen" "I") ∈ TBG := tb_in (tk6 (List.mem_of_getElem? (i := 124) rfl)) rfl
theorem tw_1325 : (Jvm.Cond.fieldLink "DustParishModel" (492 : Nat) "DustParishModel" "seenThen" "I") ∈ TBG := tb_in (tk6 (List.mem_of_getElem? (i := 125) rfl)) rfl
theorem tw_1326 : (Jvm.Cond.fieldLink "DustParishModel" (139 : Nat) "DustParishModel" "imageRow" "[I") ∈ TBG := tb_in (tk6 (List.mem_of_getElem? (i := 126) rfl)) rfl
theorem tw_1327 : (Jvm.Cond.fieldLink "DustParishModel" (142 : Nat) "DustParishModel" "pastThen" "[I") ∈ TBG := tb_in (tk6 (List.mem_of_getElem? (i := 127) rfl)) rfl
theorem tw_1328 : (Jvm.Cond.fieldLink "DustParishModel" (145 : Nat) "DustParishModel" "seenRoomThen" "[I") ∈ TBG := tb_in (tk6 (List.mem_of_getElem? (i := 128) rfl)) rfl
theorem tw_1329 : (Jvm.Cond.fieldLink "DustParishModel" (148 : Nat) "DustParishModel" "seenDaysThen" "[I") ∈ TBG := tb_in (tk6 (List.mem_of_getElem? (i := 129) rfl)) rfl
theorem tw_1330 : (Jvm.Cond.fieldLink "DustParishModel" (151 : Nat) "DustParishModel" "seenMuchThen" "[I") ∈ TBG := tb_in (tk6 (List.mem_of_getElem? (i := 130) rfl)) rfl
theorem tw_1331 : (Jvm.Cond.fieldLink "DustParishModel" (154 : Nat) "DustParishModel" "statusThen" "[I") ∈ TBG := tb_in (tk6 (List.mem_of_getElem? (i := 131) rfl)) rfl
theorem tw_1332 : (Jvm.Cond.laysFinal "DustParishModel" "DustParishModel" "kinds" "[Ljava/lang/String;") ∈ TBG := tb_in (tk6 (List.mem_of_getElem? (i := 132) rfl)) rfl
theorem tw_1333 : (Jvm.Cond.soleField "DustParishModel" "kinds") ∈ TBG := tb_in (tk6 (List.mem_of_getElem? (i := 133) rfl)) rfl
theorem tw_1334 : (Jvm.Cond.laysFinal "DustParishModel" "DustParishModel" "values" "[Ljava/lang/String;") ∈ TBG := tb_in (tk6 (List.mem_of_getElem? (i := 134) rfl)) rfl
theorem tw_1335 : (Jvm.Cond.soleField "DustParishModel" "values") ∈ TBG := tb_in (tk6 (List.mem_of_getElem? (i := 135) rfl)) rfl
theorem tw_1336 : (Jvm.Cond.lays "DustParishModel" "DustParishModel" "code" "I") ∈ TBG := tb_in (tk6 (List.mem_of_getElem? (i := 136) rfl)) rfl
theorem tw_1337 : (Jvm.Cond.soleField "DustParishModel" "code") ∈ TBG := tb_in (tk6 (List.mem_of_getElem? (i := 137) rfl)) rfl
theorem tw_1338 : (Jvm.Cond.laysFinal "DustParishModel" "DustParishModel" "told" "[I") ∈ TBG := tb_in (tk6 (List.mem_of_getElem? (i := 138) rfl)) rfl
theorem tw_1339 : (Jvm.Cond.soleField "DustParishModel" "told") ∈ TBG := tb_in (tk6 (List.mem_of_getElem? (i := 139) rfl)) rfl
theorem tw_1340 : (Jvm.Cond.laysFinal "DustParishModel" "DustParishModel" "kind" "[I") ∈ TBG := tb_in (tk6 (List.mem_of_getElem? (i := 140) rfl)) rfl
theorem tw_1341 : (Jvm.Cond.soleField "DustParishModel" "kind") ∈ TBG := tb_in (tk6 (List.mem_of_getElem? (i := 141) rfl)) rfl
theorem tw_1342 : (Jvm.Cond.laysFinal "DustParishModel" "DustParishModel" "owner" "[I") ∈ TBG := tb_in (tk6 (List.mem_of_getElem? (i := 142) rfl)) rfl
theorem tw_1343 : (Jvm.Cond.soleField "DustParishModel" "owner") ∈ TBG := tb_in (tk6 (List.mem_of_getElem? (i := 143) rfl)) rfl
theorem tw_1344 : (Jvm.Cond.laysFinal "DustParishModel" "DustParishModel" "dustTold" "[I") ∈ TBG := tb_in (tk6 (List.mem_of_getElem? (i := 144) rfl)) rfl
theorem tw_1345 : (Jvm.Cond.soleField "DustParishModel" "dustTold") ∈ TBG := tb_in (tk6 (List.mem_of_getElem? (i := 145) rfl)) rfl
theorem tw_1346 : (Jvm.Cond.laysFinal "DustParishModel" "DustParishModel" "settles" "[I") ∈ TBG := tb_in (tk6 (List.mem_of_getElem? (i := 146) rfl)) rfl
theorem tw_1347 : (Jvm.Cond.soleField "DustParishModel" "settles") ∈ TBG := tb_in (tk6 (List.mem_of_getElem? (i := 147) rfl)) rfl
theorem tw_1348 : (Jvm.Cond.laysFinal "DustParishModel" "DustParishModel" "doorA" "[I") ∈ TBG := tb_in (tk6 (List.mem_of_getElem? (i := 148) rfl)) rfl
theorem tw_1349 : (Jvm.Cond.soleField "DustParishModel" "doorA") ∈ TBG := tb_in (tk6 (List.mem_of_getElem? (i := 149) rfl)) rfl
theorem tw_1350 : (Jvm.Cond.laysFinal "DustParishModel" "DustParishModel" "doorB" "[I") ∈ TBG := tb_in (tk6 (List.mem_of_getElem? (i := 150) rfl)) rfl
theorem tw_1351 : (Jvm.Cond.soleField "DustParishModel" "doorB") ∈ TBG := tb_in (tk6 (List.mem_of_getElem? (i := 151) rfl)) rfl
theorem tw_1352 : (Jvm.Cond.laysFinal "DustParishModel" "DustParishModel" "steps" "[I") ∈ TBG := tb_in (tk6 (List.mem_of_getElem? (i := 152) rfl)) rfl
theorem tw_1353 : (Jvm.Cond.soleField "DustParishModel" "steps") ∈ TBG := tb_in (tk6 (List.mem_of_getElem? (i := 153) rfl)) rfl
theorem tw_1354 : (Jvm.Cond.laysFinal "DustParishModel" "DustParishModel" "blows" "[I") ∈ TBG := tb_in (tk6 (List.mem_of_getElem? (i := 154) rfl)) rfl
theorem tw_1355 : (Jvm.Cond.soleField "DustParishModel" "blows") ∈ TBG := tb_in (tk6 (List.mem_of_getElem? (i := 155) rfl)) rfl
theorem tw_1356 : (Jvm.Cond.laysFinal "DustParishModel" "DustParishModel" "blowFrom" "[I") ∈ TBG := tb_in (tk6 (List.mem_of_getElem? (i := 156) rfl)) rfl
theorem tw_1357 : (Jvm.Cond.soleField "DustParishModel" "blowFrom") ∈ TBG := tb_in (tk6 (List.mem_of_getElem? (i := 157) rfl)) rfl
theorem tw_1358 : (Jvm.Cond.laysFinal "DustParishModel" "DustParishModel" "blowTo" "[I") ∈ TBG := tb_in (tk6 (List.mem_of_getElem? (i := 158) rfl)) rfl
theorem tw_1359 : (Jvm.Cond.soleField "DustParishModel" "blowTo") ∈ TBG := tb_in (tk6 (List.mem_of_getElem? (i := 159) rfl)) rfl
theorem tw_1360 : (Jvm.Cond.laysFinal "DustParishModel" "DustParishModel" "blowBy" "[I") ∈ TBG := tb_in (tk6 (List.mem_of_getElem? (i := 160) rfl)) rfl
theorem tw_1361 : (Jvm.Cond.soleField "DustParishModel" "blowBy") ∈ TBG := tb_in (tk6 (List.mem_of_getElem? (i := 161) rfl)) rfl
theorem tw_1362 : (Jvm.Cond.laysFinal "DustParishModel" "DustParishModel" "calendarTold" "[I") ∈ TBG := tb_in (tk6 (List.mem_of_getElem? (i := 162) rfl)) rfl
theorem tw_1363 : (Jvm.Cond.soleField "DustParishModel" "calendarTold") ∈ TBG := tb_in (tk6 (List.mem_of_getElem? (i := 163) rfl)) rfl
theorem tw_1364 : (Jvm.Cond.laysFinal "DustParishModel" "DustParishModel" "signs" "[I") ∈ TBG := tb_in (tk6 (List.mem_of_getElem? (i := 164) rfl)) rfl
theorem tw_1365 : (Jvm.Cond.soleField "DustParishModel" "signs") ∈ TBG := tb_in (tk6 (List.mem_of_getElem? (i := 165) rfl)) rfl
theorem tw_1366 : (Jvm.Cond.laysFinal "DustParishModel" "DustParishModel" "status" "[I") ∈ TBG := tb_in (tk6 (List.mem_of_getElem? (i := 166) rfl)) rfl
theorem tw_1367 : (Jvm.Cond.soleField "DustParishModel" "status") ∈ TBG := tb_in (tk6 (List.mem_of_getElem? (i := 167) rfl)) rfl
theorem tw_1368 : (Jvm.Cond.laysFinal "DustParishModel" "DustParishModel" "tape" "[I") ∈ TBG := tb_in (tk6 (List.mem_of_getElem? (i := 168) rfl)) rfl
theorem tw_1369 : (Jvm.Cond.soleField "DustParishModel" "tape") ∈ TBG := tb_in (tk6 (List.mem_of_getElem? (i := 169) rfl)) rfl
theorem tw_1370 : (Jvm.Cond.lays "DustParishModel" "DustParishModel" "taped" "I") ∈ TBG := tb_in (tk6 (List.mem_of_getElem? (i := 170) rfl)) rfl
theorem tw_1371 : (Jvm.Cond.soleField "DustParishModel" "taped") ∈ TBG := tb_in (tk6 (List.mem_of_getElem? (i := 171) rfl)) rfl
theorem tw_1372 : (Jvm.Cond.lays "DustParishModel" "DustParishModel" "at" "I") ∈ TBG := tb_in (tk6 (List.mem_of_getElem? (i := 172) rfl)) rfl
theorem tw_1373 : (Jvm.Cond.soleField "DustParishModel" "at") ∈ TBG := tb_in (tk6 (List.mem_of_getElem? (i := 173) rfl)) rfl
theorem tw_1374 : (Jvm.Cond.lays "DustParishModel" "DustParishModel" "size" "I") ∈ TBG := tb_in (tk6 (List.mem_of_getElem? (i := 174) rfl)) rfl
theorem tw_1375 : (Jvm.Cond.soleField "DustParishModel" "size") ∈ TBG := tb_in (tk6 (List.mem_of_getElem? (i := 175) rfl)) rfl
theorem tw_1376 : (Jvm.Cond.lays "DustParishModel" "DustParishModel" "token" "I") ∈ TBG := tb_in (tk6 (List.mem_of_getElem? (i := 176) rfl)) rfl
theorem tw_1377 : (Jvm.Cond.soleField "DustParishModel" "token") ∈ TBG := tb_in (tk6 (List.mem_of_getElem? (i := 177) rfl)) rfl
theorem tw_1378 : (Jvm.Cond.lays "DustParishModel" "DustParishModel" "number" "I") ∈ TBG := tb_in (tk6 (List.mem_of_getElem? (i := 178) rfl)) rfl
theorem tw_1379 : (Jvm.Cond.soleField "DustParishModel" "number") ∈ TBG := tb_in (tk6 (List.mem_of_getElem? (i := 179) rfl)) rfl
theorem tw_1380 : (Jvm.Cond.lays "DustParishModel" "DustParishModel" "begins" "I") ∈ TBG := tb_in (tk6 (List.mem_of_getElem? (i := 180) rfl)) rfl
theorem tw_1381 : (Jvm.Cond.soleField "DustParishModel" "begins") ∈ TBG := tb_in (tk6 (List.mem_of_getElem? (i := 181) rfl)) rfl
theorem tw_1382 : (Jvm.Cond.lays "DustParishModel" "DustParishModel" "stops" "I") ∈ TBG := tb_in (tk6 (List.mem_of_getElem? (i := 182) rfl)) rfl
theorem tw_1383 : (Jvm.Cond.soleField "DustParishModel" "stops") ∈ TBG := tb_in (tk6 (List.mem_of_getElem? (i := 183) rfl)) rfl
theorem tw_1384 : (Jvm.Cond.lays "DustParishModel" "DustParishModel" "bad" "I") ∈ TBG := tb_in (tk6 (List.mem_of_getElem? (i := 184) rfl)) rfl
theorem tw_1385 : (Jvm.Cond.soleField "DustParishModel" "bad") ∈ TBG := tb_in (tk6 (List.mem_of_getElem? (i := 185) rfl)) rfl
theorem tw_1386 : (Jvm.Cond.lays "DustParishModel" "DustParishModel" "badPlace" "I") ∈ TBG := tb_in (tk6 (List.mem_of_getElem? (i := 186) rfl)) rfl
theorem tw_1387 : (Jvm.Cond.soleField "DustParishModel" "badPlace") ∈ TBG := tb_in (tk6 (List.mem_of_getElem? (i := 187) rfl)) rfl
theorem tw_1388 : (Jvm.Cond.lays "DustParishModel" "DustParishModel" "faultPlace" "I") ∈ TBG := tb_in (tk6 (List.mem_of_getElem? (i := 188) rfl)) rfl
theorem tw_1389 : (Jvm.Cond.soleField "DustParishModel" "faultPlace") ∈ TBG := tb_in (tk6 (List.mem_of_getElem? (i := 189) rfl)) rfl
theorem tw_1390 : (Jvm.Cond.laysFinal "DustParishModel" "DustParishModel" "dust" "[I") ∈ TBG := tb_in (tk6 (List.mem_of_getElem? (i := 190) rfl)) rfl
theorem tw_1391 : (Jvm.Cond.soleField "DustParishModel" "dust") ∈ TBG := tb_in (tk6 (List.mem_of_getElem? (i := 191) rfl)) rfl
theorem tw_1392 : (Jvm.Cond.laysFinal "DustParishModel" "DustParishModel" "brought" "[I") ∈ TBG := tb_in (tk6 (List.mem_of_getElem? (i := 192) rfl)) rfl
theorem tw_1393 : (Jvm.Cond.soleField "DustParishModel" "brought") ∈ TBG := tb_in (tk6 (List.mem_of_getElem? (i := 193) rfl)) rfl
theorem tw_1394 : (Jvm.Cond.laysFinal "DustParishModel" "DustParishModel" "calendar" "[I") ∈ TBG := tb_in (tk6 (List.mem_of_getElem? (i := 194) rfl)) rfl
theorem tw_1395 : (Jvm.Cond.soleField "DustParishModel" "calendar") ∈ TBG := tb_in (tk6 (List.mem_of_getElem? (i := 195) rfl)) rfl
theorem tw_1396 : (Jvm.Cond.laysFinal "DustParishModel" "DustParishModel" "past" "[I") ∈ TBG := tb_in (tk6 (List.mem_of_getElem? (i := 196) rfl)) rfl
theorem tw_1397 : (Jvm.Cond.soleField "DustParishModel" "past") ∈ TBG := tb_in (tk6 (List.mem_of_getElem? (i := 197) rfl)) rfl
theorem tw_1398 : (Jvm.Cond.lays "DustParishModel" "DustParishModel" "day" "I") ∈ TBG := tb_in (tk6 (List.mem_of_getElem? (i := 198) rfl)) rfl
theorem tw_1399 : (Jvm.Cond.soleField "DustParishModel" "day") ∈ TBG := tb_in (tk6 (List.mem_of_getElem? (i := 199) rfl)) rfl
theorem tw_1400 : (Jvm.Cond.lays "DustParishModel" "DustParishModel" "taken" "I") ∈ TBG := tb_in (tk6 (List.mem_of_getElem? (i := 200) rfl)) rfl
theorem tw_1401 : (Jvm.Cond.soleField "DustParishModel" "taken") ∈ TBG := tb_in (tk6 (List.mem_of_getElem? (i := 201) rfl)) rfl
theorem tw_1402 : (Jvm.Cond.lays "DustParishModel" "DustParishModel" "stolen" "I") ∈ TBG := tb_in (tk6 (List.mem_of_getElem? (i := 202) rfl)) rfl
theorem tw_1403 : (Jvm.Cond.soleField "DustParishModel" "stolen") ∈ TBG := tb_in (tk6 (List.mem_of_getElem? (i := 203) rfl)) rfl
theorem tw_1404 : (Jvm.Cond.lays "DustParishModel" "DustParishModel" "acts" "I") ∈ TBG := tb_in (tk6 (List.mem_of_getElem? (i := 204) rfl)) rfl
theorem tw_1405 : (Jvm.Cond.soleField "DustParishModel" "acts") ∈ TBG := tb_in (tk6 (List.mem_of_getElem? (i := 205) rfl)) rfl
theorem tw_1406 : (Jvm.Cond.lays "DustParishModel" "DustParishModel" "seen" "I") ∈ TBG := tb_in (tk6 (List.mem_of_getElem? (i := 206) rfl)) rfl
theorem tw_1407 : (Jvm.Cond.soleField "DustParishModel" "seen") ∈ TBG := tb_in (tk6 (List.mem_of_getElem? (i := 207) rfl)) rfl
theorem tw_1408 : (Jvm.Cond.laysFinal "DustParishModel" "DustParishModel" "asked" "[I") ∈ TBG := tb_in (tk6 (List.mem_of_getElem? (i := 208) rfl)) rfl
theorem tw_1409 : (Jvm.Cond.soleField "DustParishModel" "asked") ∈ TBG := tb_in (tk6 (List.mem_of_getElem? (i := 209) rfl)) rfl
theorem tw_1410 : (Jvm.Cond.laysFinal "DustParishModel" "DustParishModel" "stack" "[I") ∈ TBG := tb_in (tk6 (List.mem_of_getElem? (i := 210) rfl)) rfl
theorem tw_1411 : (Jvm.Cond.soleField "DustParishModel" "stack") ∈ TBG := tb_in (tk6 (List.mem_of_getElem? (i := 211) rfl)) rfl
theorem tw_1412 : (Jvm.Cond.laysFinal "DustParishModel" "DustParishModel" "tithes" "[I") ∈ TBG := tb_in (tk6 (List.mem_of_getElem? (i := 212) rfl)) rfl
theorem tw_1413 : (Jvm.Cond.soleField "DustParishModel" "tithes") ∈ TBG := tb_in (tk6 (List.mem_of_getElem? (i := 213) rfl)) rfl
theorem tw_1414 : (Jvm.Cond.laysFinal "DustParishModel" "DustParishModel" "ways" "[I") ∈ TBG := tb_in (tk6 (List.mem_of_getElem? (i := 214) rfl)) rfl
theorem tw_1415 : (Jvm.Cond.soleField "DustParishModel" "ways") ∈ TBG := tb_in (tk6 (List.mem_of_getElem? (i := 215) rfl)) rfl
theorem tw_1416 : (Jvm.Cond.laysFinal "DustParishModel" "DustParishModel" "rowThen" "[I") ∈ TBG := tb_in (tk6 (List.mem_of_getElem? (i := 216) rfl)) rfl
theorem tw_1417 : (Jvm.Cond.soleField "DustParishModel" "rowThen") ∈ TBG := tb_in (tk6 (List.mem_of_getElem? (i := 217) rfl)) rfl
theorem tw_1418 : (Jvm.Cond.laysFinal "DustParishModel" "DustParishModel" "order" "[I") ∈ TBG := tb_in (tk6 (List.mem_of_getElem? (i := 218) rfl)) rfl
theorem tw_1419 : (Jvm.Cond.soleField "DustParishModel" "order") ∈ TBG := tb_in (tk6 (List.mem_of_getElem? (i := 219) rfl)) rfl
theorem tw_1420 : (Jvm.Cond.laysFinal "DustParishModel" "DustParishModel" "bestOrder" "[I") ∈ TBG := tb_in (tk6 (List.mem_of_getElem? (i := 220) rfl)) rfl
theorem tw_1421 : (Jvm.Cond.soleField "DustParishModel" "bestOrder") ∈ TBG := tb_in (tk6 (List.mem_of_getElem? (i := 221) rfl)) rfl
theorem tw_1422 : (Jvm.Cond.lays "DustParishModel" "DustParishModel" "mostByOrder" "I") ∈ TBG := tb_in (tk6 (List.mem_of_getElem? (i := 222) rfl)) rfl
theorem tw_1423 : (Jvm.Cond.soleField "DustParishModel" "mostByOrder") ∈ TBG := tb_in (tk6 (List.mem_of_getElem? (i := 223) rfl)) rfl
theorem tw_1424 : (Jvm.Cond.laysFinal "DustParishModel" "DustParishModel" "rounds" "[I") ∈ TBG := tb_in (tk6 (List.mem_of_getElem? (i := 224) rfl)) rfl
theorem tw_1425 : (Jvm.Cond.soleField "DustParishModel" "rounds") ∈ TBG := tb_in (tk6 (List.mem_of_getElem? (i := 225) rfl)) rfl
theorem tw_1426 : (Jvm.Cond.laysFinal "DustParishModel" "DustParishModel" "loads" "[I") ∈ TBG := tb_in (tk6 (List.mem_of_getElem? (i := 226) rfl)) rfl
theorem tw_1427 : (Jvm.Cond.soleField "DustParishModel" "loads") ∈ TBG := tb_in (tk6 (List.mem_of_getElem? (i := 227) rfl)) rfl
theorem tw_1428 : (Jvm.Cond.laysFinal "DustParishModel" "DustParishModel" "grain" "[I") ∈ TBG := tb_in (tk6 (List.mem_of_getElem? (i := 228) rfl)) rfl
theorem tw_1429 : (Jvm.Cond.soleField "DustParishModel" "grain") ∈ TBG := tb_in (tk6 (List.mem_of_getElem? (i := 229) rfl)) rfl
theorem tw_1430 : (Jvm.Cond.laysFinal "DustParishModel" "DustParishModel" "seenRoom" "[I") ∈ TBG := tb_in (tk6 (List.mem_of_getElem? (i := 230) rfl)) rfl
theorem tw_1431 : (Jvm.Cond.soleField "DustParishModel" "seenRoom") ∈ TBG := tb_in (tk6 (List.mem_of_getElem? (i := 231) rfl)) rfl
theorem tw_1432 : (Jvm.Cond.laysFinal "DustParishModel" "DustParishModel" "seenDays" "[I") ∈ TBG := tb_in (tk6 (List.mem_of_getElem? (i := 232) rfl)) rfl
theorem tw_1433 : (Jvm.Cond.soleField "DustParishModel" "seenDays") ∈ TBG := tb_in (tk6 (List.mem_of_getElem? (i := 233) rfl)) rfl
theorem tw_1434 : (Jvm.Cond.laysFinal "DustParishModel" "DustParishModel" "seenMuch" "[I") ∈ TBG := tb_in (tk6 (List.mem_of_getElem? (i := 234) rfl)) rfl
theorem tw_1435 : (Jvm.Cond.soleField "DustParishModel" "seenMuch") ∈ TBG := tb_in (tk6 (List.mem_of_getElem? (i := 235) rfl)) rfl
theorem tw_1436 : (Jvm.Cond.laysFinal "DustParishModel" "DustParishModel" "rowSeen" "[I") ∈ TBG := tb_in (tk6 (List.mem_of_getElem? (i := 236) rfl)) rfl
theorem tw_1437 : (Jvm.Cond.soleField "DustParishModel" "rowSeen") ∈ TBG := tb_in (tk6 (List.mem_of_getElem? (i := 237) rfl)) rfl
theorem tw_1438 : (Jvm.Cond.lays "DustParishModel" "DustParishModel" "seedNow" "I") ∈ TBG := tb_in (tk6 (List.mem_of_getElem? (i := 238) rfl)) rfl
theorem tw_1439 : (Jvm.Cond.soleField "DustParishModel" "seedNow") ∈ TBG := tb_in (tk6 (List.mem_of_getElem? (i := 239) rfl)) rfl
theorem tw_1440 : (Jvm.Cond.lays "DustParishModel" "DustParishModel" "hasImage" "Z") ∈ TBG := tb_in (tk7 (List.mem_of_getElem? (i := 0) rfl)) rfl
theorem tw_1441 : (Jvm.Cond.soleField "DustParishModel" "hasImage") ∈ TBG := tb_in (tk7 (List.mem_of_getElem? (i := 1) rfl)) rfl
theorem tw_1442 : (Jvm.Cond.lays "DustParishModel" "DustParishModel" "actsThen" "I") ∈ TBG := tb_in (tk7 (List.mem_of_getElem? (i := 2) rfl)) rfl
theorem tw_1443 : (Jvm.Cond.soleField "DustParishModel" "actsThen") ∈ TBG := tb_in (tk7 (List.mem_of_getElem? (i := 3) rfl)) rfl
theorem tw_1444 : (Jvm.Cond.lays "DustParishModel" "DustParishModel" "seenThen" "I") ∈ TBG := tb_in (tk7 (List.mem_of_getElem? (i := 4) rfl)) rfl
theorem tw_1445 : (Jvm.Cond.soleField "DustParishModel" "seenThen") ∈ TBG := tb_in (tk7 (List.mem_of_getElem? (i := 5) rfl)) rfl
theorem tw_1446 : (Jvm.Cond.laysFinal "DustParishModel" "DustParishModel" "imageRow" "[I") ∈ TBG := tb_in (tk7 (List.mem_of_getElem? (i := 6) rfl)) rfl
theorem tw_1447 : (Jvm.Cond.soleField "DustParishModel" "imageRow") ∈ TBG := tb_in (tk7 (List.mem_of_getElem? (i := 7) rfl)) rfl
theorem tw_1448 : (Jvm.Cond.laysFinal "DustParishModel" "DustParishModel" "pastThen" "[I") ∈ TBG := tb_in (tk7 (List.mem_of_getElem? (i := 8) rfl)) rfl
theorem tw_1449 : (Jvm.Cond.soleField "DustParishModel" "pastThen") ∈ TBG := tb_in (tk7 (List.mem_of_getElem? (i := 9) rfl)) rfl
theorem tw_1450 : (Jvm.Cond.laysFinal "DustParishModel" "DustParishModel" "seenRoomThen" "[I") ∈ TBG := tb_in (tk7 (List.mem_of_getElem? (i := 10) rfl)) rfl
theorem tw_1451 : (Jvm.Cond.soleField "DustParishModel" "seenRoomThen") ∈ TBG := tb_in (tk7 (List.mem_of_getElem? (i := 11) rfl)) rfl
theorem tw_1452 : (Jvm.Cond.laysFinal "DustParishModel" "DustParishModel" "seenDaysThen" "[I") ∈ TBG := tb_in (tk7 (List.mem_of_getElem? (i := 12) rfl)) rfl
theorem tw_1453 : (Jvm.Cond.soleField "DustParishModel" "seenDaysThen") ∈ TBG := tb_in (tk7 (List.mem_of_getElem? (i := 13) rfl)) rfl
theorem tw_1454 : (Jvm.Cond.laysFinal "DustParishModel" "DustParishModel" "seenMuchThen" "[I") ∈ TBG := tb_in (tk7 (List.mem_of_getElem? (i := 14) rfl)) rfl
theorem tw_1455 : (Jvm.Cond.soleField "DustParishModel" "seenMuchThen") ∈ TBG := tb_in (tk7 (List.mem_of_getElem? (i := 15) rfl)) rfl
theorem tw_1456 : (Jvm.Cond.laysFinal "DustParishModel" "DustParishModel" "statusThen" "[I") ∈ TBG := tb_in (tk7 (List.mem_of_getElem? (i := 16) rfl)) rfl
theorem tw_1457 : (Jvm.Cond.soleField "DustParishModel" "statusThen") ∈ TBG := tb_in (tk7 (List.mem_of_getElem? (i := 17) rfl)) rfl
theorem tw_1458 : (Jvm.Cond.superclass "DustParishModel" "java/lang/Object") ∈ TBG := tb_in (tk7 (List.mem_of_getElem? (i := 18) rfl)) rfl
theorem tw_1459 : (Jvm.Cond.methodLink "DustParishLaw" (115 : Nat) yX11_thrown) ∈ TBG := tb_in (tk7 (List.mem_of_getElem? (i := 19) rfl)) rfl
theorem tw_1460 : (Jvm.Cond.instanceMethod yX11_thrown) ∈ TBG := tb_in (tk7 (List.mem_of_getElem? (i := 20) rfl)) rfl
theorem tw_1461 : (Jvm.Cond.selects "DustParishModel" yX11_thrown yX11_thrown) ∈ TBG := tb_in (tk7 (List.mem_of_getElem? (i := 21) rfl)) rfl
theorem tw_1462 : (Jvm.Cond.code yX11_thrown cX11_thrown (1 : Nat) (Option.some Jvm.ClassFile.FieldType.int)) ∈ TBG := tb_in (tk7 (List.mem_of_getElem? (i := 22) rfl)) rfl
theorem tw_1463 : (Jvm.Cond.methodLink "DustParishLaw" (108 : Nat) yX11_feed) ∈ TBG := tb_in (tk7 (List.mem_of_getElem? (i := 23) rfl)) rfl
theorem tw_1464 : (Jvm.Cond.instanceMethod yX11_feed) ∈ TBG := tb_in (tk7 (List.mem_of_getElem? (i := 24) rfl)) rfl
theorem tw_1465 : (Jvm.Cond.selects "DustParishModel" yX11_feed yX11_feed) ∈ TBG := tb_in (tk7 (List.mem_of_getElem? (i := 25) rfl)) rfl
theorem tw_1466 : (Jvm.Cond.code yX11_feed cX11_feed (8 : Nat) (Option.some Jvm.ClassFile.FieldType.int)) ∈ TBG := tb_in (tk7 (List.mem_of_getElem? (i := 26) rfl)) rfl
theorem tw_1467 : (Jvm.Cond.methodLink "DustParishLaw" (114 : Nat) yX11_parish) ∈ TBG := tb_in (tk7 (List.mem_of_getElem? (i := 27) rfl)) rfl
theorem tw_1468 : (Jvm.Cond.instanceMethod yX11_parish) ∈ TBG := tb_in (tk7 (List.mem_of_getElem? (i := 28) rfl)) rfl
theorem tw_1469 : (Jvm.Cond.selects "DustParishModel" yX11_parish yX11_parish) ∈ TBG := tb_in (tk7 (List.mem_of_getElem? (i := 29) rfl)) rfl
theorem tw_1470 : (Jvm.Cond.code yX11_parish cX11_parish (3 : Nat) (Option.some Jvm.ClassFile.FieldType.int)) ∈ TBG := tb_in (tk7 (List.mem_of_getElem? (i := 30) rfl)) rfl
theorem tw_1471 : (Jvm.Cond.methodLink "DustParishModel" (320 : Nat) yX11_fail) ∈ TBG := tb_in (tk7 (List.mem_of_getElem? (i := 31) rfl)) rfl
theorem tw_1473 : (Jvm.Cond.instanceMethod yX11_fail) ∈ TBG := tb_in (tk7 (List.mem_of_getElem? (i := 33) rfl)) rfl
theorem tw_1474 : (Jvm.Cond.code yX11_fail cX11_fail (2 : Nat) (Option.some Jvm.ClassFile.FieldType.int)) ∈ TBG := tb_in (tk7 (List.mem_of_getElem? (i := 34) rfl)) rfl
theorem tw_1475 : (Jvm.Cond.methodLink "DustParishModel" (233 : Nat) yX11_stepOn) ∈ TBG := tb_in (tk7 (List.mem_of_getElem? (i := 35) rfl)) rfl
theorem tw_1477 : (Jvm.Cond.instanceMethod yX11_stepOn) ∈ TBG := tb_in (tk7 (List.mem_of_getElem? (i := 37) rfl)) rfl
theorem tw_1478 : (Jvm.Cond.code yX11_stepOn cX11_stepOn (2 : Nat) (Option.none : Option Jvm.ClassFile.FieldType)) ∈ TBG := tb_in (tk7 (List.mem_of_getElem? (i := 38) rfl)) rfl
theorem tw_1479 : (Jvm.Cond.methodLink "DustParishModel" (175 : Nat) yX11_byteAt) ∈ TBG := tb_in (tk7 (List.mem_of_getElem? (i := 39) rfl)) rfl
theorem tw_1481 : (Jvm.Cond.instanceMethod yX11_byteAt) ∈ TBG := tb_in (tk7 (List.mem_of_getElem? (i := 41) rfl)) rfl
theorem tw_1482 : (Jvm.Cond.code yX11_byteAt cX11_byteAt (2 : Nat) (Option.some Jvm.ClassFile.FieldType.int)) ∈ TBG := tb_in (tk7 (List.mem_of_getElem? (i := 42) rfl)) rfl
theorem tw_1483 : (Jvm.Cond.methodLink "DustParishModel" (185 : Nat) yX11_isLetter) ∈ TBG := tb_in (tk7 (List.mem_of_getElem? (i := 43) rfl)) rfl
theorem tw_1484 : (Jvm.Cond.static yX11_isLetter) ∈ TBG := tb_in (tk7 (List.mem_of_getElem? (i := 44) rfl)) rfl
theorem tw_1485 : (Jvm.Cond.code yX11_isLetter cX11_isLetter (1 : Nat) (Option.some Jvm.ClassFile.FieldType.boolean)) ∈ TBG := tb_in (tk7 (List.mem_of_getElem? (i := 45) rfl)) rfl
theorem tw_1486 : (Jvm.Cond.methodLink "DustParishModel" (189 : Nat) yX11_isDigit) ∈ TBG := tb_in (tk7 (List.mem_of_getElem? (i := 46) rfl)) rfl
theorem tw_1487 : (Jvm.Cond.static yX11_isDigit) ∈ TBG := tb_in (tk7 (List.mem_of_getElem? (i := 47) rfl)) rfl
theorem tw_1488 : (Jvm.Cond.code yX11_isDigit cX11_isDigit (1 : Nat) (Option.some Jvm.ClassFile.FieldType.boolean)) ∈ TBG := tb_in (tk7 (List.mem_of_getElem? (i := 48) rfl)) rfl
theorem tw_1489 : (Jvm.Cond.constant "DustParishModel" (195 : Nat) (100000 : Int32)) ∈ TBG := tb_in (tk7 (List.mem_of_getElem? (i := 49) rfl)) rfl
theorem tw_1490 : (Jvm.Cond.methodLink "DustParishModel" (196 : Nat) yJ9_min_7cf53) ∈ TBG := tb_in (tk7 (List.mem_of_getElem? (i := 50) rfl)) rfl
theorem tw_1491 : (Jvm.Cond.methodLink "DustParishModel" (202 : Nat) yX11_isMark) ∈ TBG := tb_in (tk7 (List.mem_of_getElem? (i := 51) rfl)) rfl
theorem tw_1492 : (Jvm.Cond.static yX11_isMark) ∈ TBG := tb_in (tk7 (List.mem_of_getElem? (i := 52) rfl)) rfl
theorem tw_1493 : (Jvm.Cond.code yX11_isMark cX11_isMark (1 : Nat) (Option.some Jvm.ClassFile.FieldType.boolean)) ∈ TBG := tb_in (tk7 (List.mem_of_getElem? (i := 53) rfl)) rfl
theorem tw_1494 : (Jvm.Cond.methodLink "DustParishModel" (323 : Nat) yX11_readLine) ∈ TBG := tb_in (tk7 (List.mem_of_getElem? (i := 54) rfl)) rfl
theorem tw_1496 : (Jvm.Cond.instanceMethod yX11_readLine) ∈ TBG := tb_in (tk7 (List.mem_of_getElem? (i := 56) rfl)) rfl
theorem tw_1497 : (Jvm.Cond.code yX11_readLine cX11_readLine (4 : Nat) (Option.some Jvm.ClassFile.FieldType.int)) ∈ TBG := tb_in (tk7 (List.mem_of_getElem? (i := 57) rfl)) rfl
theorem tw_1499 : (Jvm.Cond.methodLink "DustParishModel" (222 : Nat) yX11_is) ∈ TBG := tb_in (tk7 (List.mem_of_getElem? (i := 59) rfl)) rfl
theorem tw_1501 : (Jvm.Cond.instanceMethod yX11_is) ∈ TBG := tb_in (tk7 (List.mem_of_getElem? (i := 61) rfl)) rfl
theorem tw_1502 : (Jvm.Cond.code yX11_is cX11_is (4 : Nat) (Option.some Jvm.ClassFile.FieldType.boolean)) ∈ TBG := tb_in (tk7 (List.mem_of_getElem? (i := 62) rfl)) rfl
theorem tw_1503 : (Jvm.Cond.methodLink "DustParishModel" (214 : Nat) yJ0_length_8abf5) ∈ TBG := tb_in (tk7 (List.mem_of_getElem? (i := 63) rfl)) rfl
theorem tw_1504 : (Jvm.Cond.methodLink "DustParishModel" (218 : Nat) yJ0_charAt_5068e) ∈ TBG := tb_in (tk7 (List.mem_of_getElem? (i := 64) rfl)) rfl
theorem tw_1508 : (Jvm.Cond.methodLink "DustParishModel" (248 : Nat) yX11_which) ∈ TBG := tb_in (tk7 (List.mem_of_getElem? (i := 68) rfl)) rfl
theorem tw_1510 : (Jvm.Cond.instanceMethod yX11_which) ∈ TBG := tb_in (tk7 (List.mem_of_getElem? (i := 70) rfl)) rfl
theorem tw_1511 : (Jvm.Cond.code yX11_which cX11_which (3 : Nat) (Option.some Jvm.ClassFile.FieldType.int)) ∈ TBG := tb_in (tk7 (List.mem_of_getElem? (i := 71) rfl)) rfl
theorem tw_1512 : (Jvm.Cond.methodLink "DustParishModel" (229 : Nat) yX11_wrong) ∈ TBG := tb_in (tk7 (List.mem_of_getElem? (i := 72) rfl)) rfl
theorem tw_1514 : (Jvm.Cond.instanceMethod yX11_wrong) ∈ TBG := tb_in (tk7 (List.mem_of_getElem? (i := 74) rfl)) rfl
theorem tw_1515 : (Jvm.Cond.code yX11_wrong cX11_wrong (2 : Nat) (Option.none : Option Jvm.ClassFile.FieldType)) ∈ TBG := tb_in (tk7 (List.mem_of_getElem? (i := 75) rfl)) rfl
theorem tw_1516 : (Jvm.Cond.methodLink "DustParishModel" (299 : Nat) yX11_sayCalendar) ∈ TBG := tb_in (tk7 (List.mem_of_getElem? (i := 76) rfl)) rfl
theorem tw_1518 : (Jvm.Cond.instanceMethod yX11_sayCalendar) ∈ TBG := tb_in (tk7 (List.mem_of_getElem? (i := 78) rfl)) rfl
theorem tw_1519 : (Jvm.Cond.code yX11_sayCalendar cX11_sayCalendar (3 : Nat) (Option.none : Option Jvm.ClassFile.FieldType)) ∈ TBG := tb_in (tk7 (List.mem_of_getElem? (i := 79) rfl)) rfl
theorem tw_1520 : (Jvm.Cond.methodLink "DustParishModel" (236 : Nat) yX11_numberNow) ∈ TBG := tb_in (tk7 (List.mem_of_getElem? (i := 80) rfl)) rfl
theorem tw_1522 : (Jvm.Cond.instanceMethod yX11_numberNow) ∈ TBG := tb_in (tk7 (List.mem_of_getElem? (i := 82) rfl)) rfl
theorem tw_1523 : (Jvm.Cond.code yX11_numberNow cX11_numberNow (3 : Nat) (Option.some Jvm.ClassFile.FieldType.int)) ∈ TBG := tb_in (tk7 (List.mem_of_getElem? (i := 83) rfl)) rfl
theorem tw_1524 : (Jvm.Cond.methodLink "DustParishModel" (242 : Nat) yX11_readNumber) ∈ TBG := tb_in (tk7 (List.mem_of_getElem? (i := 84) rfl)) rfl
theorem tw_1526 : (Jvm.Cond.instanceMethod yX11_readNumber) ∈ TBG := tb_in (tk7 (List.mem_of_getElem? (i := 86) rfl)) rfl
theorem tw_1527 : (Jvm.Cond.code yX11_readNumber cX11_readNumber (4 : Nat) (Option.some Jvm.ClassFile.FieldType.int)) ∈ TBG := tb_in (tk7 (List.mem_of_getElem? (i := 87) rfl)) rfl
theorem tw_1528 : (Jvm.Cond.methodLink "DustParishModel" (255 : Nat) yX11_readExpression) ∈ TBG := tb_in (tk7 (List.mem_of_getElem? (i := 88) rfl)) rfl
theorem tw_1530 : (Jvm.Cond.instanceMethod yX11_readExpression) ∈ TBG := tb_in (tk7 (List.mem_of_getElem? (i := 90) rfl)) rfl
theorem tw_1531 : (Jvm.Cond.code yX11_readExpression cX11_readExpression (3 : Nat) (Option.none : Option Jvm.ClassFile.FieldType)) ∈ TBG := tb_in (tk7 (List.mem_of_getElem? (i := 91) rfl)) rfl
theorem tw_1532 : (Jvm.Cond.methodLink "DustParishModel" (226 : Nat) yX11_isMarked) ∈ TBG := tb_in (tk7 (List.mem_of_getElem? (i := 92) rfl)) rfl
theorem tw_1534 : (Jvm.Cond.instanceMethod yX11_isMarked) ∈ TBG := tb_in (tk7 (List.mem_of_getElem? (i := 94) rfl)) rfl
theorem tw_1535 : (Jvm.Cond.code yX11_isMarked cX11_isMarked (2 : Nat) (Option.some Jvm.ClassFile.FieldType.boolean)) ∈ TBG := tb_in (tk7 (List.mem_of_getElem? (i := 95) rfl)) rfl
theorem tw_1536 : (Jvm.Cond.methodLink "DustParishModel" (274 : Nat) yX11_readAnd) ∈ TBG := tb_in (tk7 (List.mem_of_getElem? (i := 96) rfl)) rfl
theorem tw_1538 : (Jvm.Cond.instanceMethod yX11_readAnd) ∈ TBG := tb_in (tk7 (List.mem_of_getElem? (i := 98) rfl)) rfl
theorem tw_1539 : (Jvm.Cond.code yX11_readAnd cX11_readAnd (2 : Nat) (Option.none : Option Jvm.ClassFile.FieldType)) ∈ TBG := tb_in (tk7 (List.mem_of_getElem? (i := 99) rfl)) rfl
theorem tw_1540 : (Jvm.Cond.methodLink "DustParishModel" (269 : Nat) yX11_readNot) ∈ TBG := tb_in (tk7 (List.mem_of_getElem? (i := 100) rfl)) rfl
theorem tw_1542 : (Jvm.Cond.instanceMethod yX11_readNot) ∈ TBG := tb_in (tk7 (List.mem_of_getElem? (i := 102) rfl)) rfl
theorem tw_1543 : (Jvm.Cond.code yX11_readNot cX11_readNot (4 : Nat) (Option.none : Option Jvm.ClassFile.FieldType)) ∈ TBG := tb_in (tk7 (List.mem_of_getElem? (i := 103) rfl)) rfl
theorem tw_1545 : (Jvm.Cond.methodLink "DustParishModel" (266 : Nat) yX11_readSum) ∈ TBG := tb_in (tk7 (List.mem_of_getElem? (i := 105) rfl)) rfl
theorem tw_1547 : (Jvm.Cond.instanceMethod yX11_readSum) ∈ TBG := tb_in (tk7 (List.mem_of_getElem? (i := 107) rfl)) rfl
theorem tw_1548 : (Jvm.Cond.code yX11_readSum cX11_readSum (3 : Nat) (Option.none : Option Jvm.ClassFile.FieldType)) ∈ TBG := tb_in (tk7 (List.mem_of_getElem? (i := 108) rfl)) rfl
theorem tw_1549 : (Jvm.Cond.methodLink "DustParishModel" (261 : Nat) yX11_readProduct) ∈ TBG := tb_in (tk7 (List.mem_of_getElem? (i := 109) rfl)) rfl
theorem tw_1551 : (Jvm.Cond.instanceMethod yX11_readProduct) ∈ TBG := tb_in (tk7 (List.mem_of_getElem? (i := 111) rfl)) rfl
theorem tw_1552 : (Jvm.Cond.code yX11_readProduct cX11_readProduct (3 : Nat) (Option.none : Option Jvm.ClassFile.FieldType)) ∈ TBG := tb_in (tk7 (List.mem_of_getElem? (i := 112) rfl)) rfl
theorem tw_1553 : (Jvm.Cond.methodLink "DustParishModel" (258 : Nat) yX11_readPart) ∈ TBG := tb_in (tk7 (List.mem_of_getElem? (i := 113) rfl)) rfl
theorem tw_1555 : (Jvm.Cond.instanceMethod yX11_readPart) ∈ TBG := tb_in (tk7 (List.mem_of_getElem? (i := 115) rfl)) rfl
theorem tw_1556 : (Jvm.Cond.code yX11_readPart cX11_readPart (3 : Nat) (Option.none : Option Jvm.ClassFile.FieldType)) ∈ TBG := tb_in (tk7 (List.mem_of_getElem? (i := 116) rfl)) rfl
theorem tw_1557 : (Jvm.Cond.methodLink "DustParishModel" (245 : Nat) yX11_lay) ∈ TBG := tb_in (tk7 (List.mem_of_getElem? (i := 117) rfl)) rfl
theorem tw_1559 : (Jvm.Cond.instanceMethod yX11_lay) ∈ TBG := tb_in (tk7 (List.mem_of_getElem? (i := 119) rfl)) rfl
theorem tw_1560 : (Jvm.Cond.code yX11_lay cX11_lay (2 : Nat) (Option.none : Option Jvm.ClassFile.FieldType)) ∈ TBG := tb_in (tk7 (List.mem_of_getElem? (i := 120) rfl)) rfl
theorem tw_1561 : (Jvm.Cond.methodLink "DustParishModel" (252 : Nat) yX11_mark) ∈ TBG := tb_in (tk7 (List.mem_of_getElem? (i := 121) rfl)) rfl
theorem tw_1563 : (Jvm.Cond.instanceMethod yX11_mark) ∈ TBG := tb_in (tk7 (List.mem_of_getElem? (i := 123) rfl)) rfl
theorem tw_1564 : (Jvm.Cond.code yX11_mark cX11_mark (2 : Nat) (Option.none : Option Jvm.ClassFile.FieldType)) ∈ TBG := tb_in (tk7 (List.mem_of_getElem? (i := 124) rfl)) rfl
theorem tw_1567 : (Jvm.Cond.methodLink "DustParishModel" (302 : Nat) yX11_sayRoom) ∈ TBG := tb_in (tk7 (List.mem_of_getElem? (i := 127) rfl)) rfl
theorem tw_1569 : (Jvm.Cond.instanceMethod yX11_sayRoom) ∈ TBG := tb_in (tk7 (List.mem_of_getElem? (i := 129) rfl)) rfl
theorem tw_1570 : (Jvm.Cond.code yX11_sayRoom cX11_sayRoom (3 : Nat) (Option.none : Option Jvm.ClassFile.FieldType)) ∈ TBG := tb_in (tk7 (List.mem_of_getElem? (i := 130) rfl)) rfl
theorem tw_1571 : (Jvm.Cond.methodLink "DustParishModel" (279 : Nat) yX11_another) ∈ TBG := tb_in (tk7 (List.mem_of_getElem? (i := 131) rfl)) rfl
theorem tw_1573 : (Jvm.Cond.instanceMethod yX11_another) ∈ TBG := tb_in (tk7 (List.mem_of_getElem? (i := 133) rfl)) rfl
theorem tw_1574 : (Jvm.Cond.code yX11_another cX11_another (3 : Nat) (Option.some Jvm.ClassFile.FieldType.boolean)) ∈ TBG := tb_in (tk7 (List.mem_of_getElem? (i := 134) rfl)) rfl
theorem tw_1576 : (Jvm.Cond.methodLink "DustParishModel" (307 : Nat) yX11_sayDoor) ∈ TBG := tb_in (tk7 (List.mem_of_getElem? (i := 136) rfl)) rfl
theorem tw_1578 : (Jvm.Cond.instanceMethod yX11_sayDoor) ∈ TBG := tb_in (tk7 (List.mem_of_getElem? (i := 138) rfl)) rfl
theorem tw_1579 : (Jvm.Cond.code yX11_sayDoor cX11_sayDoor (4 : Nat) (Option.none : Option Jvm.ClassFile.FieldType)) ∈ TBG := tb_in (tk7 (List.mem_of_getElem? (i := 139) rfl)) rfl
theorem tw_1580 : (Jvm.Cond.methodLink "DustParishModel" (283 : Nat) yX11_readRoom) ∈ TBG := tb_in (tk7 (List.mem_of_getElem? (i := 140) rfl)) rfl
theorem tw_1582 : (Jvm.Cond.instanceMethod yX11_readRoom) ∈ TBG := tb_in (tk7 (List.mem_of_getElem? (i := 142) rfl)) rfl
theorem tw_1583 : (Jvm.Cond.code yX11_readRoom cX11_readRoom (2 : Nat) (Option.some Jvm.ClassFile.FieldType.int)) ∈ TBG := tb_in (tk7 (List.mem_of_getElem? (i := 143) rfl)) rfl
theorem tw_1584 : (Jvm.Cond.methodLink "DustParishModel" (239 : Nat) yX11_roomNow) ∈ TBG := tb_in (tk7 (List.mem_of_getElem? (i := 144) rfl)) rfl
theorem tw_1586 : (Jvm.Cond.instanceMethod yX11_roomNow) ∈ TBG := tb_in (tk7 (List.mem_of_getElem? (i := 146) rfl)) rfl
theorem tw_1587 : (Jvm.Cond.code yX11_roomNow cX11_roomNow (2 : Nat) (Option.some Jvm.ClassFile.FieldType.int)) ∈ TBG := tb_in (tk7 (List.mem_of_getElem? (i := 147) rfl)) rfl
theorem tw_1588 : (Jvm.Cond.methodLink "DustParishModel" (286 : Nat) yX11_isDoor) ∈ TBG := tb_in (tk7 (List.mem_of_getElem? (i := 148) rfl)) rfl
theorem tw_1590 : (Jvm.Cond.instanceMethod yX11_isDoor) ∈ TBG := tb_in (tk7 (List.mem_of_getElem? (i := 150) rfl)) rfl
theorem tw_1591 : (Jvm.Cond.code yX11_isDoor cX11_isDoor (4 : Nat) (Option.some Jvm.ClassFile.FieldType.boolean)) ∈ TBG := tb_in (tk7 (List.mem_of_getElem? (i := 151) rfl)) rfl
theorem tw_1593 : (Jvm.Cond.methodLink "DustParishModel" (312 : Nat) yX11_sayWind) ∈ TBG := tb_in (tk7 (List.mem_of_getElem? (i := 153) rfl)) rfl
theorem tw_1595 : (Jvm.Cond.instanceMethod yX11_sayWind) ∈ TBG := tb_in (tk7 (List.mem_of_getElem? (i := 155) rfl)) rfl
theorem tw_1596 : (Jvm.Cond.code yX11_sayWind cX11_sayWind (1 : Nat) (Option.none : Option Jvm.ClassFile.FieldType)) ∈ TBG := tb_in (tk7 (List.mem_of_getElem? (i := 156) rfl)) rfl
theorem tw_1598 : (Jvm.Cond.methodLink "DustParishModel" (317 : Nat) yX11_sayBlow) ∈ TBG := tb_in (tk7 (List.mem_of_getElem? (i := 158) rfl)) rfl
theorem tw_1600 : (Jvm.Cond.instanceMethod yX11_sayBlow) ∈ TBG := tb_in (tk7 (List.mem_of_getElem? (i := 160) rfl)) rfl
theorem tw_1601 : (Jvm.Cond.code yX11_sayBlow cX11_sayBlow (5 : Nat) (Option.none : Option Jvm.ClassFile.FieldType)) ∈ TBG := tb_in (tk7 (List.mem_of_getElem? (i := 161) rfl)) rfl
theorem tw_1602 : (Jvm.Cond.methodLink "DustParishModel" (289 : Nat) yJ9_max_7cf53) ∈ TBG := tb_in (tk7 (List.mem_of_getElem? (i := 162) rfl)) rfl
theorem tw_1603 : (Jvm.Cond.methodLink "DustParishModel" (326 : Nat) yX11_takeOver) ∈ TBG := tb_in (tk7 (List.mem_of_getElem? (i := 163) rfl)) rfl
theorem tw_1605 : (Jvm.Cond.instanceMethod yX11_takeOver) ∈ TBG := tb_in (tk7 (List.mem_of_getElem? (i := 165) rfl)) rfl
theorem tw_1606 : (Jvm.Cond.code yX11_takeOver cX11_takeOver (2 : Nat) (Option.none : Option Jvm.ClassFile.FieldType)) ∈ TBG := tb_in (tk7 (List.mem_of_getElem? (i := 166) rfl)) rfl
theorem tw_1607 : (Jvm.Cond.methodLink "DustParishModel" (329 : Nat) yX11_takeHalf) ∈ TBG := tb_in (tk7 (List.mem_of_getElem? (i := 167) rfl)) rfl
theorem tw_1608 : (Jvm.Cond.static yX11_takeHalf) ∈ TBG := tb_in (tk7 (List.mem_of_getElem? (i := 168) rfl)) rfl
theorem tw_1609 : (Jvm.Cond.code yX11_takeHalf cX11_takeHalf (2 : Nat) (Option.none : Option Jvm.ClassFile.FieldType)) ∈ TBG := tb_in (tk7 (List.mem_of_getElem? (i := 169) rfl)) rfl
theorem tw_1610 : (Jvm.Cond.methodLink "DustParishLaw" (122 : Nat) yX11_fault) ∈ TBG := tb_in (tk7 (List.mem_of_getElem? (i := 170) rfl)) rfl
theorem tw_1611 : (Jvm.Cond.instanceMethod yX11_fault) ∈ TBG := tb_in (tk7 (List.mem_of_getElem? (i := 171) rfl)) rfl
theorem tw_1612 : (Jvm.Cond.selects "DustParishModel" yX11_fault yX11_fault) ∈ TBG := tb_in (tk7 (List.mem_of_getElem? (i := 172) rfl)) rfl
theorem tw_1613 : (Jvm.Cond.code yX11_fault cX11_fault (1 : Nat) (Option.some Jvm.ClassFile.FieldType.int)) ∈ TBG := tb_in (tk7 (List.mem_of_getElem? (i := 173) rfl)) rfl
theorem tw_1614 : (Jvm.Cond.methodLink "DustParishLaw" (125 : Nat) yX11_count) ∈ TBG := tb_in (tk7 (List.mem_of_getElem? (i := 174) rfl)) rfl
theorem tw_1615 : (Jvm.Cond.instanceMethod yX11_count) ∈ TBG := tb_in (tk7 (List.mem_of_getElem? (i := 175) rfl)) rfl
theorem tw_1616 : (Jvm.Cond.selects "DustParishModel" yX11_count yX11_count) ∈ TBG := tb_in (tk7 (List.mem_of_getElem? (i := 176) rfl)) rfl
theorem tw_1617 : (Jvm.Cond.code yX11_count cX11_count (2 : Nat) (Option.some Jvm.ClassFile.FieldType.int)) ∈ TBG := tb_in (tk7 (List.mem_of_getElem? (i := 177) rfl)) rfl
theorem tw_1618 : (Jvm.Cond.methodLink "DustParishModel" (381 : Nat) yX11_allDust) ∈ TBG := tb_in (tk7 (List.mem_of_getElem? (i := 178) rfl)) rfl
theorem tw_1620 : (Jvm.Cond.instanceMethod yX11_allDust) ∈ TBG := tb_in (tk7 (List.mem_of_getElem? (i := 180) rfl)) rfl
theorem tw_1621 : (Jvm.Cond.code yX11_allDust cX11_allDust (3 : Nat) (Option.some Jvm.ClassFile.FieldType.int)) ∈ TBG := tb_in (tk7 (List.mem_of_getElem? (i := 181) rfl)) rfl
theorem tw_1622 : (Jvm.Cond.methodLink "DustParishModel" (384 : Nat) yX11_heretics) ∈ TBG := tb_in (tk7 (List.mem_of_getElem? (i := 182) rfl)) rfl
theorem tw_1624 : (Jvm.Cond.instanceMethod yX11_heretics) ∈ TBG := tb_in (tk7 (List.mem_of_getElem? (i := 184) rfl)) rfl
theorem tw_1625 : (Jvm.Cond.code yX11_heretics cX11_heretics (3 : Nat) (Option.some Jvm.ClassFile.FieldType.int)) ∈ TBG := tb_in (tk7 (List.mem_of_getElem? (i := 185) rfl)) rfl
theorem tw_1626 : (Jvm.Cond.methodLink "DustParishLaw" (129 : Nat) yX11_room) ∈ TBG := tb_in (tk7 (List.mem_of_getElem? (i := 186) rfl)) rfl
theorem tw_1627 : (Jvm.Cond.instanceMethod yX11_room) ∈ TBG := tb_in (tk7 (List.mem_of_getElem? (i := 187) rfl)) rfl
theorem tw_1628 : (Jvm.Cond.selects "DustParishModel" yX11_room yX11_room) ∈ TBG := tb_in (tk7 (List.mem_of_getElem? (i := 188) rfl)) rfl
theorem tw_1629 : (Jvm.Cond.code yX11_room cX11_room (5 : Nat) (Option.some Jvm.ClassFile.FieldType.int)) ∈ TBG := tb_in (tk7 (List.mem_of_getElem? (i := 189) rfl)) rfl
theorem tw_1630 : (Jvm.Cond.methodLink "DustParishModel" (387 : Nat) yX11_isRoom) ∈ TBG := tb_in (tk7 (List.mem_of_getElem? (i := 190) rfl)) rfl
theorem tw_1632 : (Jvm.Cond.instanceMethod yX11_isRoom) ∈ TBG := tb_in (tk7 (List.mem_of_getElem? (i := 192) rfl)) rfl
theorem tw_1633 : (Jvm.Cond.code yX11_isRoom cX11_isRoom (2 : Nat) (Option.some Jvm.ClassFile.FieldType.boolean)) ∈ TBG := tb_in (tk7 (List.mem_of_getElem? (i := 193) rfl)) rfl
theorem tw_1634 : (Jvm.Cond.methodLink "DustParishModel" (160 : Nat) yX11_isIn) ∈ TBG := tb_in (tk7 (List.mem_of_getElem? (i := 194) rfl)) rfl
theorem tw_1635 : (Jvm.Cond.static yX11_isIn) ∈ TBG := tb_in (tk7 (List.mem_of_getElem? (i := 195) rfl)) rfl
theorem tw_1636 : (Jvm.Cond.code yX11_isIn cX11_isIn (6 : Nat) (Option.some Jvm.ClassFile.FieldType.boolean)) ∈ TBG := tb_in (tk7 (List.mem_of_getElem? (i := 196) rfl)) rfl
theorem tw_1637 : (Jvm.Cond.methodLink "DustParishModel" (362 : Nat) yX11_tithe) ∈ TBG := tb_in (tk7 (List.mem_of_getElem? (i := 197) rfl)) rfl
theorem tw_1639 : (Jvm.Cond.instanceMethod yX11_tithe) ∈ TBG := tb_in (tk7 (List.mem_of_getElem? (i := 199) rfl)) rfl
theorem tw_1640 : (Jvm.Cond.code yX11_tithe cX11_tithe (4 : Nat) (Option.some Jvm.ClassFile.FieldType.int)) ∈ TBG := tb_in (tk7 (List.mem_of_getElem? (i := 200) rfl)) rfl
theorem tw_1641 : (Jvm.Cond.methodLink "DustParishModel" (355 : Nat) yX11_valueNow) ∈ TBG := tb_in (tk7 (List.mem_of_getElem? (i := 201) rfl)) rfl
theorem tw_1643 : (Jvm.Cond.instanceMethod yX11_valueNow) ∈ TBG := tb_in (tk7 (List.mem_of_getElem? (i := 203) rfl)) rfl
theorem tw_1644 : (Jvm.Cond.code yX11_valueNow cX11_valueNow (4 : Nat) (Option.some Jvm.ClassFile.FieldType.int)) ∈ TBG := tb_in (tk7 (List.mem_of_getElem? (i := 204) rfl)) rfl
theorem tw_1645 : (Jvm.Cond.methodLink "DustParishModel" (351 : Nat) yX11_reckon) ∈ TBG := tb_in (tk7 (List.mem_of_getElem? (i := 205) rfl)) rfl
theorem tw_1646 : (Jvm.Cond.static yX11_reckon) ∈ TBG := tb_in (tk7 (List.mem_of_getElem? (i := 206) rfl)) rfl
theorem tw_1647 : (Jvm.Cond.code yX11_reckon cX11_reckon (3 : Nat) (Option.some Jvm.ClassFile.FieldType.int)) ∈ TBG := tb_in (tk7 (List.mem_of_getElem? (i := 207) rfl)) rfl
theorem tw_1648 : (Jvm.Cond.methodLink "DustParishLaw" (132 : Nat) yX11_far) ∈ TBG := tb_in (tk7 (List.mem_of_getElem? (i := 208) rfl)) rfl
theorem tw_1649 : (Jvm.Cond.instanceMethod yX11_far) ∈ TBG := tb_in (tk7 (List.mem_of_getElem? (i := 209) rfl)) rfl
theorem tw_1650 : (Jvm.Cond.selects "DustParishModel" yX11_far yX11_far) ∈ TBG := tb_in (tk7 (List.mem_of_getElem? (i := 210) rfl)) rfl
theorem tw_1651 : (Jvm.Cond.code yX11_far cX11_far (3 : Nat) (Option.some Jvm.ClassFile.FieldType.int)) ∈ TBG := tb_in (tk7 (List.mem_of_getElem? (i := 211) rfl)) rfl
theorem tw_1652 : (Jvm.Cond.methodLink "DustParishModel" (391 : Nat) yX11_tellWays) ∈ TBG := tb_in (tk7 (List.mem_of_getElem? (i := 212) rfl)) rfl
theorem tw_1654 : (Jvm.Cond.instanceMethod yX11_tellWays) ∈ TBG := tb_in (tk7 (List.mem_of_getElem? (i := 214) rfl)) rfl
theorem tw_1655 : (Jvm.Cond.code yX11_tellWays cX11_tellWays (3 : Nat) (Option.none : Option Jvm.ClassFile.FieldType)) ∈ TBG := tb_in (tk7 (List.mem_of_getElem? (i := 215) rfl)) rfl
theorem tw_1656 : (Jvm.Cond.constant "DustParishModel" (390 : Nat) (1000000 : Int32)) ∈ TBG := tb_in (tk7 (List.mem_of_getElem? (i := 216) rfl)) rfl
theorem tw_1657 : (Jvm.Cond.methodLink "DustParishModel" (394 : Nat) yX11_orNone) ∈ TBG := tb_in (tk7 (List.mem_of_getElem? (i := 217) rfl)) rfl
theorem tw_1658 : (Jvm.Cond.static yX11_orNone) ∈ TBG := tb_in (tk7 (List.mem_of_getElem? (i := 218) rfl)) rfl
theorem tw_1659 : (Jvm.Cond.code yX11_orNone cX11_orNone (1 : Nat) (Option.some Jvm.ClassFile.FieldType.int)) ∈ TBG := tb_in (tk7 (List.mem_of_getElem? (i := 219) rfl)) rfl
theorem tw_1660 : (Jvm.Cond.methodLink "DustParishLaw" (135 : Nat) yX11_near) ∈ TBG := tb_in (tk7 (List.mem_of_getElem? (i := 220) rfl)) rfl
theorem tw_1661 : (Jvm.Cond.instanceMethod yX11_near) ∈ TBG := tb_in (tk7 (List.mem_of_getElem? (i := 221) rfl)) rfl
theorem tw_1662 : (Jvm.Cond.selects "DustParishModel" yX11_near yX11_near) ∈ TBG := tb_in (tk7 (List.mem_of_getElem? (i := 222) rfl)) rfl
theorem tw_1663 : (Jvm.Cond.code yX11_near cX11_near (5 : Nat) (Option.some Jvm.ClassFile.FieldType.int)) ∈ TBG := tb_in (tk7 (List.mem_of_getElem? (i := 223) rfl)) rfl
theorem tw_1664 : (Jvm.Cond.methodLink "DustParishLaw" (139 : Nat) yX11_blow) ∈ TBG := tb_in (tk7 (List.mem_of_getElem? (i := 224) rfl)) rfl
theorem tw_1665 : (Jvm.Cond.instanceMethod yX11_blow) ∈ TBG := tb_in (tk7 (List.mem_of_getElem? (i := 225) rfl)) rfl
theorem tw_1666 : (Jvm.Cond.selects "DustParishModel" yX11_blow yX11_blow) ∈ TBG := tb_in (tk7 (List.mem_of_getElem? (i := 226) rfl)) rfl
theorem tw_1667 : (Jvm.Cond.code yX11_blow cX11_blow (5 : Nat) (Option.some Jvm.ClassFile.FieldType.int)) ∈ TBG := tb_in (tk7 (List.mem_of_getElem? (i := 227) rfl)) rfl
theorem tw_1668 : (Jvm.Cond.constantLong "DustParishModel" (397 : Nat) (2 : Int64)) ∈ TBG := tb_in (tk7 (List.mem_of_getElem? (i := 228) rfl)) rfl
theorem tw_1669 : (Jvm.Cond.constantLong "DustParishModel" (399 : Nat) (-1 : Int64)) ∈ TBG := tb_in (tk7 (List.mem_of_getElem? (i := 229) rfl)) rfl
theorem tw_1670 : (Jvm.Cond.methodLink "DustParishLaw" (142 : Nat) yX11_wind) ∈ TBG := tb_in (tk7 (List.mem_of_getElem? (i := 230) rfl)) rfl
theorem tw_1671 : (Jvm.Cond.instanceMethod yX11_wind) ∈ TBG := tb_in (tk7 (List.mem_of_getElem? (i := 231) rfl)) rfl
theorem tw_1672 : (Jvm.Cond.selects "DustParishModel" yX11_wind yX11_wind) ∈ TBG := tb_in (tk7 (List.mem_of_getElem? (i := 232) rfl)) rfl
theorem tw_1673 : (Jvm.Cond.code yX11_wind cX11_wind (2 : Nat) (Option.some Jvm.ClassFile.FieldType.int)) ∈ TBG := tb_in (tk7 (List.mem_of_getElem? (i := 233) rfl)) rfl
theorem tw_1674 : (Jvm.Cond.constantLong "DustParishModel" (401 : Nat) (9999 : Int64)) ∈ TBG := tb_in (tk7 (List.mem_of_getElem? (i := 234) rfl)) rfl
theorem tw_1675 : (Jvm.Cond.methodLink "DustParishModel" (372 : Nat) yX11_windOf) ∈ TBG := tb_in (tk7 (List.mem_of_getElem? (i := 235) rfl)) rfl
theorem tw_1677 : (Jvm.Cond.instanceMethod yX11_windOf) ∈ TBG := tb_in (tk7 (List.mem_of_getElem? (i := 237) rfl)) rfl
theorem tw_1678 : (Jvm.Cond.code yX11_windOf cX11_windOf (2 : Nat) (Option.some Jvm.ClassFile.FieldType.int)) ∈ TBG := tb_in (tk7 (List.mem_of_getElem? (i := 238) rfl)) rfl
theorem tw_1679 : (Jvm.Cond.methodLink "DustParishLaw" (146 : Nat) yX11_days) ∈ TBG := tb_in (tk7 (List.mem_of_getElem? (i := 239) rfl)) rfl
theorem tw_1680 : (Jvm.Cond.instanceMethod yX11_days) ∈ TBG := tb_in (tk8 (List.mem_of_getElem? (i := 0) rfl)) rfl
theorem tw_1681 : (Jvm.Cond.selects "DustParishModel" yX11_days yX11_days) ∈ TBG := tb_in (tk8 (List.mem_of_getElem? (i := 1) rfl)) rfl
theorem tw_1682 : (Jvm.Cond.code yX11_days cX11_days (2 : Nat) (Option.some Jvm.ClassFile.FieldType.int)) ∈ TBG := tb_in (tk8 (List.mem_of_getElem? (i := 2) rfl)) rfl
theorem tw_1683 : (Jvm.Cond.constantLong "DustParishModel" (407 : Nat) (30 : Int64)) ∈ TBG := tb_in (tk8 (List.mem_of_getElem? (i := 3) rfl)) rfl
theorem tw_1684 : (Jvm.Cond.methodLink "DustParishModel" (409 : Nat) yX11_refuse) ∈ TBG := tb_in (tk8 (List.mem_of_getElem? (i := 4) rfl)) rfl
theorem tw_1686 : (Jvm.Cond.instanceMethod yX11_refuse) ∈ TBG := tb_in (tk8 (List.mem_of_getElem? (i := 6) rfl)) rfl
theorem tw_1687 : (Jvm.Cond.code yX11_refuse cX11_refuse (2 : Nat) (Option.some Jvm.ClassFile.FieldType.int)) ∈ TBG := tb_in (tk8 (List.mem_of_getElem? (i := 7) rfl)) rfl
theorem tw_1688 : (Jvm.Cond.methodLink "DustParishModel" (412 : Nat) yX11_keep) ∈ TBG := tb_in (tk8 (List.mem_of_getElem? (i := 8) rfl)) rfl
theorem tw_1690 : (Jvm.Cond.instanceMethod yX11_keep) ∈ TBG := tb_in (tk8 (List.mem_of_getElem? (i := 10) rfl)) rfl
theorem tw_1691 : (Jvm.Cond.code yX11_keep cX11_keep (2 : Nat) (Option.none : Option Jvm.ClassFile.FieldType)) ∈ TBG := tb_in (tk8 (List.mem_of_getElem? (i := 11) rfl)) rfl
theorem tw_1692 : (Jvm.Cond.methodLink "DustParishModel" (403 : Nat) yX11_pack) ∈ TBG := tb_in (tk8 (List.mem_of_getElem? (i := 12) rfl)) rfl
theorem tw_1694 : (Jvm.Cond.instanceMethod yX11_pack) ∈ TBG := tb_in (tk8 (List.mem_of_getElem? (i := 14) rfl)) rfl
theorem tw_1695 : (Jvm.Cond.code yX11_pack cX11_pack (4 : Nat) (Option.none : Option Jvm.ClassFile.FieldType)) ∈ TBG := tb_in (tk8 (List.mem_of_getElem? (i := 15) rfl)) rfl
theorem tw_1696 : (Jvm.Cond.methodLink "DustParishModel" (415 : Nat) yX11_goOn) ∈ TBG := tb_in (tk8 (List.mem_of_getElem? (i := 16) rfl)) rfl
theorem tw_1698 : (Jvm.Cond.instanceMethod yX11_goOn) ∈ TBG := tb_in (tk8 (List.mem_of_getElem? (i := 18) rfl)) rfl
theorem tw_1699 : (Jvm.Cond.code yX11_goOn cX11_goOn (3 : Nat) (Option.none : Option Jvm.ClassFile.FieldType)) ∈ TBG := tb_in (tk8 (List.mem_of_getElem? (i := 19) rfl)) rfl
theorem tw_1700 : (Jvm.Cond.methodLink "DustParishModel" (378 : Nat) yX11_aDay) ∈ TBG := tb_in (tk8 (List.mem_of_getElem? (i := 20) rfl)) rfl
theorem tw_1702 : (Jvm.Cond.instanceMethod yX11_aDay) ∈ TBG := tb_in (tk8 (List.mem_of_getElem? (i := 22) rfl)) rfl
theorem tw_1703 : (Jvm.Cond.code yX11_aDay cX11_aDay (1 : Nat) (Option.none : Option Jvm.ClassFile.FieldType)) ∈ TBG := tb_in (tk8 (List.mem_of_getElem? (i := 23) rfl)) rfl
theorem tw_1704 : (Jvm.Cond.methodLink "DustParishModel" (375 : Nat) yX11_passes) ∈ TBG := tb_in (tk8 (List.mem_of_getElem? (i := 24) rfl)) rfl
theorem tw_1706 : (Jvm.Cond.instanceMethod yX11_passes) ∈ TBG := tb_in (tk8 (List.mem_of_getElem? (i := 26) rfl)) rfl
theorem tw_1707 : (Jvm.Cond.code yX11_passes cX11_passes (3 : Nat) (Option.none : Option Jvm.ClassFile.FieldType)) ∈ TBG := tb_in (tk8 (List.mem_of_getElem? (i := 27) rfl)) rfl
theorem tw_1708 : (Jvm.Cond.methodLink "DustParishModel" (364 : Nat) yX11_settle) ∈ TBG := tb_in (tk8 (List.mem_of_getElem? (i := 28) rfl)) rfl
theorem tw_1710 : (Jvm.Cond.instanceMethod yX11_settle) ∈ TBG := tb_in (tk8 (List.mem_of_getElem? (i := 30) rfl)) rfl
theorem tw_1711 : (Jvm.Cond.code yX11_settle cX11_settle (2 : Nat) (Option.none : Option Jvm.ClassFile.FieldType)) ∈ TBG := tb_in (tk8 (List.mem_of_getElem? (i := 31) rfl)) rfl
theorem tw_1712 : (Jvm.Cond.methodLink "DustParishModel" (358 : Nat) yX11_lays) ∈ TBG := tb_in (tk8 (List.mem_of_getElem? (i := 32) rfl)) rfl
theorem tw_1714 : (Jvm.Cond.instanceMethod yX11_lays) ∈ TBG := tb_in (tk8 (List.mem_of_getElem? (i := 34) rfl)) rfl
theorem tw_1715 : (Jvm.Cond.code yX11_lays cX11_lays (3 : Nat) (Option.none : Option Jvm.ClassFile.FieldType)) ∈ TBG := tb_in (tk8 (List.mem_of_getElem? (i := 35) rfl)) rfl
theorem tw_1716 : (Jvm.Cond.methodLink "DustParishModel" (367 : Nat) yX11_blows) ∈ TBG := tb_in (tk8 (List.mem_of_getElem? (i := 36) rfl)) rfl
theorem tw_1718 : (Jvm.Cond.instanceMethod yX11_blows) ∈ TBG := tb_in (tk8 (List.mem_of_getElem? (i := 38) rfl)) rfl
theorem tw_1719 : (Jvm.Cond.code yX11_blows cX11_blows (4 : Nat) (Option.none : Option Jvm.ClassFile.FieldType)) ∈ TBG := tb_in (tk8 (List.mem_of_getElem? (i := 39) rfl)) rfl
theorem tw_1720 : (Jvm.Cond.methodLink "DustParishModel" (369 : Nat) yX11_church) ∈ TBG := tb_in (tk8 (List.mem_of_getElem? (i := 40) rfl)) rfl
theorem tw_1722 : (Jvm.Cond.instanceMethod yX11_church) ∈ TBG := tb_in (tk8 (List.mem_of_getElem? (i := 42) rfl)) rfl
theorem tw_1723 : (Jvm.Cond.code yX11_church cX11_church (2 : Nat) (Option.none : Option Jvm.ClassFile.FieldType)) ∈ TBG := tb_in (tk8 (List.mem_of_getElem? (i := 43) rfl)) rfl
theorem tw_1724 : (Jvm.Cond.methodLink "DustParishLaw" (149 : Nat) yX11_sweep) ∈ TBG := tb_in (tk8 (List.mem_of_getElem? (i := 44) rfl)) rfl
theorem tw_1725 : (Jvm.Cond.instanceMethod yX11_sweep) ∈ TBG := tb_in (tk8 (List.mem_of_getElem? (i := 45) rfl)) rfl
theorem tw_1726 : (Jvm.Cond.selects "DustParishModel" yX11_sweep yX11_sweep) ∈ TBG := tb_in (tk8 (List.mem_of_getElem? (i := 46) rfl)) rfl
theorem tw_1727 : (Jvm.Cond.code yX11_sweep cX11_sweep (4 : Nat) (Option.some Jvm.ClassFile.FieldType.int)) ∈ TBG := tb_in (tk8 (List.mem_of_getElem? (i := 47) rfl)) rfl
theorem tw_1728 : (Jvm.Cond.methodLink "DustParishModel" (418 : Nat) yX11_hasDoor) ∈ TBG := tb_in (tk8 (List.mem_of_getElem? (i := 48) rfl)) rfl
theorem tw_1730 : (Jvm.Cond.instanceMethod yX11_hasDoor) ∈ TBG := tb_in (tk8 (List.mem_of_getElem? (i := 50) rfl)) rfl
theorem tw_1731 : (Jvm.Cond.code yX11_hasDoor cX11_hasDoor (4 : Nat) (Option.some Jvm.ClassFile.FieldType.boolean)) ∈ TBG := tb_in (tk8 (List.mem_of_getElem? (i := 51) rfl)) rfl
theorem tw_1732 : (Jvm.Cond.constantLong "DustParishModel" (421 : Nat) (999 : Int64)) ∈ TBG := tb_in (tk8 (List.mem_of_getElem? (i := 52) rfl)) rfl
theorem tw_1733 : (Jvm.Cond.methodLink "DustParishModel" (423 : Nat) yX11_bring) ∈ TBG := tb_in (tk8 (List.mem_of_getElem? (i := 53) rfl)) rfl
theorem tw_1735 : (Jvm.Cond.instanceMethod yX11_bring) ∈ TBG := tb_in (tk8 (List.mem_of_getElem? (i := 55) rfl)) rfl
theorem tw_1736 : (Jvm.Cond.code yX11_bring cX11_bring (4 : Nat) (Option.none : Option Jvm.ClassFile.FieldType)) ∈ TBG := tb_in (tk8 (List.mem_of_getElem? (i := 56) rfl)) rfl
theorem tw_1737 : (Jvm.Cond.methodLink "DustParishLaw" (152 : Nat) yX11_shake) ∈ TBG := tb_in (tk8 (List.mem_of_getElem? (i := 57) rfl)) rfl
theorem tw_1738 : (Jvm.Cond.instanceMethod yX11_shake) ∈ TBG := tb_in (tk8 (List.mem_of_getElem? (i := 58) rfl)) rfl
theorem tw_1739 : (Jvm.Cond.selects "DustParishModel" yX11_shake yX11_shake) ∈ TBG := tb_in (tk8 (List.mem_of_getElem? (i := 59) rfl)) rfl
theorem tw_1740 : (Jvm.Cond.code yX11_shake cX11_shake (4 : Nat) (Option.some Jvm.ClassFile.FieldType.int)) ∈ TBG := tb_in (tk8 (List.mem_of_getElem? (i := 60) rfl)) rfl
theorem tw_1741 : (Jvm.Cond.methodLink "DustParishLaw" (155 : Nat) yX11_sneeze) ∈ TBG := tb_in (tk8 (List.mem_of_getElem? (i := 61) rfl)) rfl
theorem tw_1742 : (Jvm.Cond.instanceMethod yX11_sneeze) ∈ TBG := tb_in (tk8 (List.mem_of_getElem? (i := 62) rfl)) rfl
theorem tw_1743 : (Jvm.Cond.selects "DustParishModel" yX11_sneeze yX11_sneeze) ∈ TBG := tb_in (tk8 (List.mem_of_getElem? (i := 63) rfl)) rfl
theorem tw_1744 : (Jvm.Cond.code yX11_sneeze cX11_sneeze (3 : Nat) (Option.some Jvm.ClassFile.FieldType.int)) ∈ TBG := tb_in (tk8 (List.mem_of_getElem? (i := 64) rfl)) rfl
theorem tw_1745 : (Jvm.Cond.constantLong "DustParishModel" (164 : Nat) (99 : Int64)) ∈ TBG := tb_in (tk8 (List.mem_of_getElem? (i := 65) rfl)) rfl
theorem tw_1746 : (Jvm.Cond.methodLink "DustParishModel" (427 : Nat) yX11_steal) ∈ TBG := tb_in (tk8 (List.mem_of_getElem? (i := 66) rfl)) rfl
theorem tw_1748 : (Jvm.Cond.instanceMethod yX11_steal) ∈ TBG := tb_in (tk8 (List.mem_of_getElem? (i := 68) rfl)) rfl
theorem tw_1749 : (Jvm.Cond.code yX11_steal cX11_steal (4 : Nat) (Option.some Jvm.ClassFile.FieldType.int)) ∈ TBG := tb_in (tk8 (List.mem_of_getElem? (i := 69) rfl)) rfl
theorem tw_1750 : (Jvm.Cond.methodLink "DustParishLaw" (159 : Nat) yX11_plan) ∈ TBG := tb_in (tk8 (List.mem_of_getElem? (i := 70) rfl)) rfl
theorem tw_1751 : (Jvm.Cond.instanceMethod yX11_plan) ∈ TBG := tb_in (tk8 (List.mem_of_getElem? (i := 71) rfl)) rfl
theorem tw_1752 : (Jvm.Cond.selects "DustParishModel" yX11_plan yX11_plan) ∈ TBG := tb_in (tk8 (List.mem_of_getElem? (i := 72) rfl)) rfl
theorem tw_1753 : (Jvm.Cond.code yX11_plan cX11_plan (4 : Nat) (Option.some Jvm.ClassFile.FieldType.int)) ∈ TBG := tb_in (tk8 (List.mem_of_getElem? (i := 73) rfl)) rfl
theorem tw_1754 : (Jvm.Cond.methodLink "DustParishLaw" (163 : Nat) yX11_undo) ∈ TBG := tb_in (tk8 (List.mem_of_getElem? (i := 74) rfl)) rfl
theorem tw_1755 : (Jvm.Cond.instanceMethod yX11_undo) ∈ TBG := tb_in (tk8 (List.mem_of_getElem? (i := 75) rfl)) rfl
theorem tw_1756 : (Jvm.Cond.selects "DustParishModel" yX11_undo yX11_undo) ∈ TBG := tb_in (tk8 (List.mem_of_getElem? (i := 76) rfl)) rfl
theorem tw_1757 : (Jvm.Cond.code yX11_undo cX11_undo (1 : Nat) (Option.some Jvm.ClassFile.FieldType.int)) ∈ TBG := tb_in (tk8 (List.mem_of_getElem? (i := 77) rfl)) rfl
theorem tw_1758 : (Jvm.Cond.methodLink "DustParishModel" (430 : Nat) yX11_unpack) ∈ TBG := tb_in (tk8 (List.mem_of_getElem? (i := 78) rfl)) rfl
theorem tw_1760 : (Jvm.Cond.instanceMethod yX11_unpack) ∈ TBG := tb_in (tk8 (List.mem_of_getElem? (i := 80) rfl)) rfl
theorem tw_1761 : (Jvm.Cond.code yX11_unpack cX11_unpack (4 : Nat) (Option.none : Option Jvm.ClassFile.FieldType)) ∈ TBG := tb_in (tk8 (List.mem_of_getElem? (i := 81) rfl)) rfl
theorem tw_1762 : (Jvm.Cond.methodLink "DustParishLaw" (166 : Nat) yX11_then) ∈ TBG := tb_in (tk8 (List.mem_of_getElem? (i := 82) rfl)) rfl
theorem tw_1763 : (Jvm.Cond.instanceMethod yX11_then) ∈ TBG := tb_in (tk8 (List.mem_of_getElem? (i := 83) rfl)) rfl
theorem tw_1764 : (Jvm.Cond.selects "DustParishModel" yX11_then yX11_then) ∈ TBG := tb_in (tk8 (List.mem_of_getElem? (i := 84) rfl)) rfl
theorem tw_1765 : (Jvm.Cond.code yX11_then cX11_then (4 : Nat) (Option.some Jvm.ClassFile.FieldType.int)) ∈ TBG := tb_in (tk8 (List.mem_of_getElem? (i := 85) rfl)) rfl
theorem tw_1766 : (Jvm.Cond.methodLink "DustParishModel" (433 : Nat) yX11_isAhead) ∈ TBG := tb_in (tk8 (List.mem_of_getElem? (i := 86) rfl)) rfl
theorem tw_1767 : (Jvm.Cond.static yX11_isAhead) ∈ TBG := tb_in (tk8 (List.mem_of_getElem? (i := 87) rfl)) rfl
theorem tw_1768 : (Jvm.Cond.code yX11_isAhead cX11_isAhead (1 : Nat) (Option.some Jvm.ClassFile.FieldType.boolean)) ∈ TBG := tb_in (tk8 (List.mem_of_getElem? (i := 88) rfl)) rfl
theorem tw_1769 : (Jvm.Cond.methodLink "DustParishLaw" (169 : Nat) yX11_taken) ∈ TBG := tb_in (tk8 (List.mem_of_getElem? (i := 89) rfl)) rfl
theorem tw_1770 : (Jvm.Cond.instanceMethod yX11_taken) ∈ TBG := tb_in (tk8 (List.mem_of_getElem? (i := 90) rfl)) rfl
theorem tw_1771 : (Jvm.Cond.selects "DustParishModel" yX11_taken yX11_taken) ∈ TBG := tb_in (tk8 (List.mem_of_getElem? (i := 91) rfl)) rfl
theorem tw_1772 : (Jvm.Cond.code yX11_taken cX11_taken (2 : Nat) (Option.some Jvm.ClassFile.FieldType.int)) ∈ TBG := tb_in (tk8 (List.mem_of_getElem? (i := 92) rfl)) rfl
theorem tw_1773 : (Jvm.Cond.methodLink "DustParishModel" (436 : Nat) yX11_takenIn) ∈ TBG := tb_in (tk8 (List.mem_of_getElem? (i := 93) rfl)) rfl
theorem tw_1775 : (Jvm.Cond.instanceMethod yX11_takenIn) ∈ TBG := tb_in (tk8 (List.mem_of_getElem? (i := 95) rfl)) rfl
theorem tw_1776 : (Jvm.Cond.code yX11_takenIn cX11_takenIn (5 : Nat) (Option.some Jvm.ClassFile.FieldType.int)) ∈ TBG := tb_in (tk8 (List.mem_of_getElem? (i := 96) rfl)) rfl
theorem tw_1777 : (Jvm.Cond.methodLink "DustParishLaw" (172 : Nat) yX11_thick) ∈ TBG := tb_in (tk8 (List.mem_of_getElem? (i := 97) rfl)) rfl
theorem tw_1778 : (Jvm.Cond.instanceMethod yX11_thick) ∈ TBG := tb_in (tk8 (List.mem_of_getElem? (i := 98) rfl)) rfl
theorem tw_1779 : (Jvm.Cond.selects "DustParishModel" yX11_thick yX11_thick) ∈ TBG := tb_in (tk8 (List.mem_of_getElem? (i := 99) rfl)) rfl
theorem tw_1780 : (Jvm.Cond.code yX11_thick cX11_thick (5 : Nat) (Option.some Jvm.ClassFile.FieldType.int)) ∈ TBG := tb_in (tk8 (List.mem_of_getElem? (i := 100) rfl)) rfl
theorem tw_1781 : (Jvm.Cond.methodLink "DustParishLaw" (176 : Nat) yX11_heresy) ∈ TBG := tb_in (tk8 (List.mem_of_getElem? (i := 101) rfl)) rfl
theorem tw_1782 : (Jvm.Cond.instanceMethod yX11_heresy) ∈ TBG := tb_in (tk8 (List.mem_of_getElem? (i := 102) rfl)) rfl
theorem tw_1783 : (Jvm.Cond.selects "DustParishModel" yX11_heresy yX11_heresy) ∈ TBG := tb_in (tk8 (List.mem_of_getElem? (i := 103) rfl)) rfl
theorem tw_1784 : (Jvm.Cond.code yX11_heresy cX11_heresy (3 : Nat) (Option.some Jvm.ClassFile.FieldType.int)) ∈ TBG := tb_in (tk8 (List.mem_of_getElem? (i := 104) rfl)) rfl
theorem tw_1785 : (Jvm.Cond.methodLink "DustParishLaw" (179 : Nat) yX11_order) ∈ TBG := tb_in (tk8 (List.mem_of_getElem? (i := 105) rfl)) rfl
theorem tw_1786 : (Jvm.Cond.instanceMethod yX11_order) ∈ TBG := tb_in (tk8 (List.mem_of_getElem? (i := 106) rfl)) rfl
theorem tw_1787 : (Jvm.Cond.selects "DustParishModel" yX11_order yX11_order) ∈ TBG := tb_in (tk8 (List.mem_of_getElem? (i := 107) rfl)) rfl
theorem tw_1788 : (Jvm.Cond.code yX11_order cX11_order (3 : Nat) (Option.some Jvm.ClassFile.FieldType.int)) ∈ TBG := tb_in (tk8 (List.mem_of_getElem? (i := 108) rfl)) rfl
theorem tw_1789 : (Jvm.Cond.methodLink "DustParishModel" (448 : Nat) yX11_goOrders) ∈ TBG := tb_in (tk8 (List.mem_of_getElem? (i := 109) rfl)) rfl
theorem tw_1791 : (Jvm.Cond.instanceMethod yX11_goOrders) ∈ TBG := tb_in (tk8 (List.mem_of_getElem? (i := 111) rfl)) rfl
theorem tw_1792 : (Jvm.Cond.code yX11_goOrders cX11_goOrders (6 : Nat) (Option.none : Option Jvm.ClassFile.FieldType)) ∈ TBG := tb_in (tk8 (List.mem_of_getElem? (i := 112) rfl)) rfl
theorem tw_1793 : (Jvm.Cond.methodLink "DustParishModel" (439 : Nat) yX11_byOrder) ∈ TBG := tb_in (tk8 (List.mem_of_getElem? (i := 113) rfl)) rfl
theorem tw_1795 : (Jvm.Cond.instanceMethod yX11_byOrder) ∈ TBG := tb_in (tk8 (List.mem_of_getElem? (i := 115) rfl)) rfl
theorem tw_1796 : (Jvm.Cond.code yX11_byOrder cX11_byOrder (3 : Nat) (Option.some Jvm.ClassFile.FieldType.int)) ∈ TBG := tb_in (tk8 (List.mem_of_getElem? (i := 116) rfl)) rfl
theorem tw_1797 : (Jvm.Cond.methodLink "DustParishModel" (445 : Nat) yX11_isOf) ∈ TBG := tb_in (tk8 (List.mem_of_getElem? (i := 117) rfl)) rfl
theorem tw_1798 : (Jvm.Cond.static yX11_isOf) ∈ TBG := tb_in (tk8 (List.mem_of_getElem? (i := 118) rfl)) rfl
theorem tw_1799 : (Jvm.Cond.code yX11_isOf cX11_isOf (2 : Nat) (Option.some Jvm.ClassFile.FieldType.boolean)) ∈ TBG := tb_in (tk8 (List.mem_of_getElem? (i := 119) rfl)) rfl
theorem tw_1800 : (Jvm.Cond.methodLink "DustParishLaw" (183 : Nat) yX11_alms) ∈ TBG := tb_in (tk8 (List.mem_of_getElem? (i := 120) rfl)) rfl
theorem tw_1801 : (Jvm.Cond.instanceMethod yX11_alms) ∈ TBG := tb_in (tk8 (List.mem_of_getElem? (i := 121) rfl)) rfl
theorem tw_1802 : (Jvm.Cond.selects "DustParishModel" yX11_alms yX11_alms) ∈ TBG := tb_in (tk8 (List.mem_of_getElem? (i := 122) rfl)) rfl
theorem tw_1803 : (Jvm.Cond.code yX11_alms cX11_alms (3 : Nat) (Option.some Jvm.ClassFile.FieldType.int)) ∈ TBG := tb_in (tk8 (List.mem_of_getElem? (i := 123) rfl)) rfl
theorem tw_1804 : (Jvm.Cond.methodLink "DustParishLaw" (186 : Nat) yX11_round) ∈ TBG := tb_in (tk8 (List.mem_of_getElem? (i := 124) rfl)) rfl
theorem tw_1805 : (Jvm.Cond.instanceMethod yX11_round) ∈ TBG := tb_in (tk8 (List.mem_of_getElem? (i := 125) rfl)) rfl
theorem tw_1806 : (Jvm.Cond.selects "DustParishModel" yX11_round yX11_round) ∈ TBG := tb_in (tk8 (List.mem_of_getElem? (i := 126) rfl)) rfl
theorem tw_1807 : (Jvm.Cond.code yX11_round cX11_round (9 : Nat) (Option.some Jvm.ClassFile.FieldType.int)) ∈ TBG := tb_in (tk8 (List.mem_of_getElem? (i := 127) rfl)) rfl
theorem tw_1808 : (Jvm.Cond.methodLink "DustParishLaw" (189 : Nat) yX11_shares) ∈ TBG := tb_in (tk8 (List.mem_of_getElem? (i := 128) rfl)) rfl
theorem tw_1809 : (Jvm.Cond.instanceMethod yX11_shares) ∈ TBG := tb_in (tk8 (List.mem_of_getElem? (i := 129) rfl)) rfl
theorem tw_1810 : (Jvm.Cond.selects "DustParishModel" yX11_shares yX11_shares) ∈ TBG := tb_in (tk8 (List.mem_of_getElem? (i := 130) rfl)) rfl
theorem tw_1811 : (Jvm.Cond.code yX11_shares cX11_shares (3 : Nat) (Option.some Jvm.ClassFile.FieldType.int)) ∈ TBG := tb_in (tk8 (List.mem_of_getElem? (i := 131) rfl)) rfl
theorem tw_1812 : (Jvm.Cond.constantLong "DustParishModel" (454 : Nat) (4 : Int64)) ∈ TBG := tb_in (tk8 (List.mem_of_getElem? (i := 132) rfl)) rfl
theorem tw_1813 : (Jvm.Cond.methodLink "DustParishModel" (451 : Nat) yX11_sharesFrom) ∈ TBG := tb_in (tk8 (List.mem_of_getElem? (i := 133) rfl)) rfl
theorem tw_1815 : (Jvm.Cond.instanceMethod yX11_sharesFrom) ∈ TBG := tb_in (tk8 (List.mem_of_getElem? (i := 135) rfl)) rfl
theorem tw_1816 : (Jvm.Cond.code yX11_sharesFrom cX11_sharesFrom (7 : Nat) (Option.some Jvm.ClassFile.FieldType.int)) ∈ TBG := tb_in (tk8 (List.mem_of_getElem? (i := 136) rfl)) rfl
theorem tw_1817 : (Jvm.Cond.methodLink "DustParishLaw" (192 : Nat) yX11_from) ∈ TBG := tb_in (tk8 (List.mem_of_getElem? (i := 137) rfl)) rfl
theorem tw_1818 : (Jvm.Cond.instanceMethod yX11_from) ∈ TBG := tb_in (tk8 (List.mem_of_getElem? (i := 138) rfl)) rfl
theorem tw_1819 : (Jvm.Cond.selects "DustParishModel" yX11_from yX11_from) ∈ TBG := tb_in (tk8 (List.mem_of_getElem? (i := 139) rfl)) rfl
theorem tw_1820 : (Jvm.Cond.code yX11_from cX11_from (8 : Nat) (Option.some Jvm.ClassFile.FieldType.int)) ∈ TBG := tb_in (tk8 (List.mem_of_getElem? (i := 140) rfl)) rfl
theorem tw_1821 : (Jvm.Cond.constantLong "DustParishModel" (456 : Nat) (9 : Int64)) ∈ TBG := tb_in (tk8 (List.mem_of_getElem? (i := 141) rfl)) rfl
theorem tw_1822 : (Jvm.Cond.methodLink "DustParishLaw" (195 : Nat) yX11_poorest) ∈ TBG := tb_in (tk8 (List.mem_of_getElem? (i := 142) rfl)) rfl
theorem tw_1823 : (Jvm.Cond.instanceMethod yX11_poorest) ∈ TBG := tb_in (tk8 (List.mem_of_getElem? (i := 143) rfl)) rfl
theorem tw_1824 : (Jvm.Cond.selects "DustParishModel" yX11_poorest yX11_poorest) ∈ TBG := tb_in (tk8 (List.mem_of_getElem? (i := 144) rfl)) rfl
theorem tw_1825 : (Jvm.Cond.code yX11_poorest cX11_poorest (4 : Nat) (Option.some Jvm.ClassFile.FieldType.int)) ∈ TBG := tb_in (tk8 (List.mem_of_getElem? (i := 145) rfl)) rfl
theorem tw_1826 : (Jvm.Cond.methodLink "DustParishLaw" (198 : Nat) yX11_fullest) ∈ TBG := tb_in (tk8 (List.mem_of_getElem? (i := 146) rfl)) rfl
theorem tw_1827 : (Jvm.Cond.instanceMethod yX11_fullest) ∈ TBG := tb_in (tk8 (List.mem_of_getElem? (i := 147) rfl)) rfl
theorem tw_1828 : (Jvm.Cond.selects "DustParishModel" yX11_fullest yX11_fullest) ∈ TBG := tb_in (tk8 (List.mem_of_getElem? (i := 148) rfl)) rfl
theorem tw_1829 : (Jvm.Cond.code yX11_fullest cX11_fullest (5 : Nat) (Option.some Jvm.ClassFile.FieldType.int)) ∈ TBG := tb_in (tk8 (List.mem_of_getElem? (i := 149) rfl)) rfl
theorem tw_1830 : (Jvm.Cond.methodLink "DustParishLaw" (201 : Nat) yX11_change) ∈ TBG := tb_in (tk8 (List.mem_of_getElem? (i := 150) rfl)) rfl
theorem tw_1831 : (Jvm.Cond.instanceMethod yX11_change) ∈ TBG := tb_in (tk8 (List.mem_of_getElem? (i := 151) rfl)) rfl
theorem tw_1832 : (Jvm.Cond.selects "DustParishModel" yX11_change yX11_change) ∈ TBG := tb_in (tk8 (List.mem_of_getElem? (i := 152) rfl)) rfl
theorem tw_1833 : (Jvm.Cond.code yX11_change cX11_change (7 : Nat) (Option.some Jvm.ClassFile.FieldType.int)) ∈ TBG := tb_in (tk8 (List.mem_of_getElem? (i := 153) rfl)) rfl
theorem tw_1834 : (Jvm.Cond.methodLink "DustParishModel" (458 : Nat) yX11_exchange) ∈ TBG := tb_in (tk8 (List.mem_of_getElem? (i := 154) rfl)) rfl
theorem tw_1836 : (Jvm.Cond.instanceMethod yX11_exchange) ∈ TBG := tb_in (tk8 (List.mem_of_getElem? (i := 156) rfl)) rfl
theorem tw_1837 : (Jvm.Cond.code yX11_exchange cX11_exchange (4 : Nat) (Option.none : Option Jvm.ClassFile.FieldType)) ∈ TBG := tb_in (tk8 (List.mem_of_getElem? (i := 157) rfl)) rfl
theorem tw_1838 : (Jvm.Cond.methodLink "DustParishLaw" (204 : Nat) yX11_lend) ∈ TBG := tb_in (tk8 (List.mem_of_getElem? (i := 158) rfl)) rfl
theorem tw_1839 : (Jvm.Cond.instanceMethod yX11_lend) ∈ TBG := tb_in (tk8 (List.mem_of_getElem? (i := 159) rfl)) rfl
theorem tw_1840 : (Jvm.Cond.selects "DustParishModel" yX11_lend yX11_lend) ∈ TBG := tb_in (tk8 (List.mem_of_getElem? (i := 160) rfl)) rfl
theorem tw_1841 : (Jvm.Cond.code yX11_lend cX11_lend (4 : Nat) (Option.some Jvm.ClassFile.FieldType.int)) ∈ TBG := tb_in (tk8 (List.mem_of_getElem? (i := 161) rfl)) rfl
theorem tw_1842 : (Jvm.Cond.methodLink "DustParishLaw" (207 : Nat) yX11_often) ∈ TBG := tb_in (tk8 (List.mem_of_getElem? (i := 162) rfl)) rfl
theorem tw_1843 : (Jvm.Cond.instanceMethod yX11_often) ∈ TBG := tb_in (tk8 (List.mem_of_getElem? (i := 163) rfl)) rfl
theorem tw_1844 : (Jvm.Cond.selects "DustParishModel" yX11_often yX11_often) ∈ TBG := tb_in (tk8 (List.mem_of_getElem? (i := 164) rfl)) rfl
theorem tw_1845 : (Jvm.Cond.code yX11_often cX11_often (6 : Nat) (Option.some Jvm.ClassFile.FieldType.int)) ∈ TBG := tb_in (tk8 (List.mem_of_getElem? (i := 165) rfl)) rfl
theorem tw_1846 : (Jvm.Cond.methodLink "DustParishLaw" (210 : Nat) yX11_riches) ∈ TBG := tb_in (tk8 (List.mem_of_getElem? (i := 166) rfl)) rfl
theorem tw_1847 : (Jvm.Cond.instanceMethod yX11_riches) ∈ TBG := tb_in (tk8 (List.mem_of_getElem? (i := 167) rfl)) rfl
theorem tw_1848 : (Jvm.Cond.selects "DustParishModel" yX11_riches yX11_riches) ∈ TBG := tb_in (tk8 (List.mem_of_getElem? (i := 168) rfl)) rfl
theorem tw_1849 : (Jvm.Cond.code yX11_riches cX11_riches (4 : Nat) (Option.some Jvm.ClassFile.FieldType.int)) ∈ TBG := tb_in (tk8 (List.mem_of_getElem? (i := 169) rfl)) rfl
theorem tw_1850 : (Jvm.Cond.constantLong "DustParishModel" (461 : Nat) (5 : Int64)) ∈ TBG := tb_in (tk8 (List.mem_of_getElem? (i := 170) rfl)) rfl
theorem tw_1851 : (Jvm.Cond.methodLink "DustParishLaw" (213 : Nat) yX11_lost) ∈ TBG := tb_in (tk8 (List.mem_of_getElem? (i := 171) rfl)) rfl
theorem tw_1852 : (Jvm.Cond.instanceMethod yX11_lost) ∈ TBG := tb_in (tk8 (List.mem_of_getElem? (i := 172) rfl)) rfl
theorem tw_1853 : (Jvm.Cond.selects "DustParishModel" yX11_lost yX11_lost) ∈ TBG := tb_in (tk8 (List.mem_of_getElem? (i := 173) rfl)) rfl
theorem tw_1854 : (Jvm.Cond.code yX11_lost cX11_lost (5 : Nat) (Option.some Jvm.ClassFile.FieldType.int)) ∈ TBG := tb_in (tk8 (List.mem_of_getElem? (i := 174) rfl)) rfl
theorem tw_1855 : (Jvm.Cond.methodLink "DustParishLaw" (216 : Nat) yX11_see) ∈ TBG := tb_in (tk8 (List.mem_of_getElem? (i := 175) rfl)) rfl
theorem tw_1856 : (Jvm.Cond.instanceMethod yX11_see) ∈ TBG := tb_in (tk8 (List.mem_of_getElem? (i := 176) rfl)) rfl
theorem tw_1857 : (Jvm.Cond.selects "DustParishModel" yX11_see yX11_see) ∈ TBG := tb_in (tk8 (List.mem_of_getElem? (i := 177) rfl)) rfl
theorem tw_1858 : (Jvm.Cond.code yX11_see cX11_see (4 : Nat) (Option.some Jvm.ClassFile.FieldType.int)) ∈ TBG := tb_in (tk8 (List.mem_of_getElem? (i := 178) rfl)) rfl
theorem tw_1859 : (Jvm.Cond.methodLink "DustParishLaw" (219 : Nat) yX11_hand) ∈ TBG := tb_in (tk8 (List.mem_of_getElem? (i := 179) rfl)) rfl
theorem tw_1860 : (Jvm.Cond.instanceMethod yX11_hand) ∈ TBG := tb_in (tk8 (List.mem_of_getElem? (i := 180) rfl)) rfl
theorem tw_1861 : (Jvm.Cond.selects "DustParishModel" yX11_hand yX11_hand) ∈ TBG := tb_in (tk8 (List.mem_of_getElem? (i := 181) rfl)) rfl
theorem tw_1862 : (Jvm.Cond.code yX11_hand cX11_hand (7 : Nat) (Option.some Jvm.ClassFile.FieldType.int)) ∈ TBG := tb_in (tk8 (List.mem_of_getElem? (i := 182) rfl)) rfl
theorem tw_1863 : (Jvm.Cond.methodLink "DustParishModel" (463 : Nat) yX11_isAsSeen) ∈ TBG := tb_in (tk8 (List.mem_of_getElem? (i := 183) rfl)) rfl
theorem tw_1865 : (Jvm.Cond.instanceMethod yX11_isAsSeen) ∈ TBG := tb_in (tk8 (List.mem_of_getElem? (i := 185) rfl)) rfl
theorem tw_1866 : (Jvm.Cond.code yX11_isAsSeen cX11_isAsSeen (5 : Nat) (Option.some Jvm.ClassFile.FieldType.boolean)) ∈ TBG := tb_in (tk8 (List.mem_of_getElem? (i := 186) rfl)) rfl
theorem tw_1867 : (Jvm.Cond.methodLink "DustParishLaw" (223 : Nat) yX11_forget) ∈ TBG := tb_in (tk8 (List.mem_of_getElem? (i := 187) rfl)) rfl
theorem tw_1868 : (Jvm.Cond.instanceMethod yX11_forget) ∈ TBG := tb_in (tk8 (List.mem_of_getElem? (i := 188) rfl)) rfl
theorem tw_1869 : (Jvm.Cond.selects "DustParishModel" yX11_forget yX11_forget) ∈ TBG := tb_in (tk8 (List.mem_of_getElem? (i := 189) rfl)) rfl
theorem tw_1870 : (Jvm.Cond.code yX11_forget cX11_forget (1 : Nat) (Option.none : Option Jvm.ClassFile.FieldType)) ∈ TBG := tb_in (tk8 (List.mem_of_getElem? (i := 190) rfl)) rfl
theorem tw_1871 : (Jvm.Cond.methodLink "DustParishLaw" (226 : Nat) yX11_game) ∈ TBG := tb_in (tk8 (List.mem_of_getElem? (i := 191) rfl)) rfl
theorem tw_1872 : (Jvm.Cond.instanceMethod yX11_game) ∈ TBG := tb_in (tk8 (List.mem_of_getElem? (i := 192) rfl)) rfl
theorem tw_1873 : (Jvm.Cond.selects "DustParishModel" yX11_game yX11_game) ∈ TBG := tb_in (tk8 (List.mem_of_getElem? (i := 193) rfl)) rfl
theorem tw_1874 : (Jvm.Cond.code yX11_game cX11_game (11 : Nat) (Option.some Jvm.ClassFile.FieldType.int)) ∈ TBG := tb_in (tk8 (List.mem_of_getElem? (i := 194) rfl)) rfl
theorem tw_1875 : (Jvm.Cond.methodLink "DustParishModel" (467 : Nat) yX11_lowest) ∈ TBG := tb_in (tk8 (List.mem_of_getElem? (i := 195) rfl)) rfl
theorem tw_1877 : (Jvm.Cond.instanceMethod yX11_lowest) ∈ TBG := tb_in (tk8 (List.mem_of_getElem? (i := 197) rfl)) rfl
theorem tw_1878 : (Jvm.Cond.code yX11_lowest cX11_lowest (3 : Nat) (Option.some Jvm.ClassFile.FieldType.int)) ∈ TBG := tb_in (tk8 (List.mem_of_getElem? (i := 198) rfl)) rfl
theorem tw_1879 : (Jvm.Cond.methodLink "DustParishModel" (470 : Nat) yX11_loss) ∈ TBG := tb_in (tk8 (List.mem_of_getElem? (i := 199) rfl)) rfl
theorem tw_1881 : (Jvm.Cond.instanceMethod yX11_loss) ∈ TBG := tb_in (tk8 (List.mem_of_getElem? (i := 201) rfl)) rfl
theorem tw_1882 : (Jvm.Cond.code yX11_loss cX11_loss (6 : Nat) (Option.some Jvm.ClassFile.FieldType.int)) ∈ TBG := tb_in (tk8 (List.mem_of_getElem? (i := 202) rfl)) rfl
theorem tw_1883 : (Jvm.Cond.methodLink "DustParishLaw" (229 : Nat) yX11_years) ∈ TBG := tb_in (tk8 (List.mem_of_getElem? (i := 203) rfl)) rfl
theorem tw_1884 : (Jvm.Cond.instanceMethod yX11_years) ∈ TBG := tb_in (tk8 (List.mem_of_getElem? (i := 204) rfl)) rfl
theorem tw_1885 : (Jvm.Cond.selects "DustParishModel" yX11_years yX11_years) ∈ TBG := tb_in (tk8 (List.mem_of_getElem? (i := 205) rfl)) rfl
theorem tw_1886 : (Jvm.Cond.code yX11_years cX11_years (8 : Nat) (Option.some Jvm.ClassFile.FieldType.int)) ∈ TBG := tb_in (tk8 (List.mem_of_getElem? (i := 206) rfl)) rfl
theorem tw_1887 : (Jvm.Cond.constantLong "DustParishModel" (484 : Nat) (60 : Int64)) ∈ TBG := tb_in (tk8 (List.mem_of_getElem? (i := 207) rfl)) rfl
theorem tw_1888 : (Jvm.Cond.methodLink "DustParishModel" (486 : Nat) yX11_something) ∈ TBG := tb_in (tk8 (List.mem_of_getElem? (i := 208) rfl)) rfl
theorem tw_1890 : (Jvm.Cond.instanceMethod yX11_something) ∈ TBG := tb_in (tk8 (List.mem_of_getElem? (i := 210) rfl)) rfl
theorem tw_1891 : (Jvm.Cond.code yX11_something cX11_something (3 : Nat) (Option.none : Option Jvm.ClassFile.FieldType)) ∈ TBG := tb_in (tk8 (List.mem_of_getElem? (i := 211) rfl)) rfl
theorem tw_1892 : (Jvm.Cond.methodLink "DustParishModel" (478 : Nat) yX11_drawOf) ∈ TBG := tb_in (tk8 (List.mem_of_getElem? (i := 212) rfl)) rfl
theorem tw_1894 : (Jvm.Cond.instanceMethod yX11_drawOf) ∈ TBG := tb_in (tk8 (List.mem_of_getElem? (i := 214) rfl)) rfl
theorem tw_1895 : (Jvm.Cond.code yX11_drawOf cX11_drawOf (2 : Nat) (Option.some Jvm.ClassFile.FieldType.int)) ∈ TBG := tb_in (tk8 (List.mem_of_getElem? (i := 215) rfl)) rfl
theorem tw_1896 : (Jvm.Cond.constant "DustParishModel" (477 : Nat) (1103515245 : Int32)) ∈ TBG := tb_in (tk8 (List.mem_of_getElem? (i := 216) rfl)) rfl
theorem tw_1897 : (Jvm.Cond.methodLink "DustParishModel" (481 : Nat) yX11_shakeFirst) ∈ TBG := tb_in (tk8 (List.mem_of_getElem? (i := 217) rfl)) rfl
theorem tw_1899 : (Jvm.Cond.instanceMethod yX11_shakeFirst) ∈ TBG := tb_in (tk8 (List.mem_of_getElem? (i := 219) rfl)) rfl
theorem tw_1900 : (Jvm.Cond.code yX11_shakeFirst cX11_shakeFirst (3 : Nat) (Option.none : Option Jvm.ClassFile.FieldType)) ∈ TBG := tb_in (tk8 (List.mem_of_getElem? (i := 220) rfl)) rfl
theorem tw_1901 : (Jvm.Cond.methodLink "DustParishLaw" (233 : Nat) yX11_image) ∈ TBG := tb_in (tk8 (List.mem_of_getElem? (i := 221) rfl)) rfl
theorem tw_1902 : (Jvm.Cond.instanceMethod yX11_image) ∈ TBG := tb_in (tk8 (List.mem_of_getElem? (i := 222) rfl)) rfl
theorem tw_1903 : (Jvm.Cond.selects "DustParishModel" yX11_image yX11_image) ∈ TBG := tb_in (tk8 (List.mem_of_getElem? (i := 223) rfl)) rfl
theorem tw_1904 : (Jvm.Cond.code yX11_image cX11_image (1 : Nat) (Option.none : Option Jvm.ClassFile.FieldType)) ∈ TBG := tb_in (tk8 (List.mem_of_getElem? (i := 224) rfl)) rfl
theorem tw_1905 : (Jvm.Cond.methodLink "DustParishModel" (495 : Nat) yX11_be) ∈ TBG := tb_in (tk8 (List.mem_of_getElem? (i := 225) rfl)) rfl
theorem tw_1906 : (Jvm.Cond.static yX11_be) ∈ TBG := tb_in (tk8 (List.mem_of_getElem? (i := 226) rfl)) rfl
theorem tw_1907 : (Jvm.Cond.code yX11_be cX11_be (3 : Nat) (Option.none : Option Jvm.ClassFile.FieldType)) ∈ TBG := tb_in (tk8 (List.mem_of_getElem? (i := 227) rfl)) rfl
theorem tw_1908 : (Jvm.Cond.methodLink "DustParishLaw" (238 : Nat) yX11_restore) ∈ TBG := tb_in (tk8 (List.mem_of_getElem? (i := 228) rfl)) rfl
theorem tw_1909 : (Jvm.Cond.instanceMethod yX11_restore) ∈ TBG := tb_in (tk8 (List.mem_of_getElem? (i := 229) rfl)) rfl
theorem tw_1910 : (Jvm.Cond.selects "DustParishModel" yX11_restore yX11_restore) ∈ TBG := tb_in (tk8 (List.mem_of_getElem? (i := 230) rfl)) rfl
theorem tw_1911 : (Jvm.Cond.code yX11_restore cX11_restore (1 : Nat) (Option.some Jvm.ClassFile.FieldType.boolean)) ∈ TBG := tb_in (tk8 (List.mem_of_getElem? (i := 231) rfl)) rfl
theorem tw_1912 : (Jvm.Cond.arrayClass Jvm.ClassFile.FieldType.long) ∈ TBG := tb_in (tk8 (List.mem_of_getElem? (i := 232) rfl)) rfl
theorem tw_1913 : (Jvm.Cond.sameMethod "java/lang/Throwable" "java/lang/Throwable" "fillInStackTrace" "(I)Ljava/lang/Throwable;") ∈ TBG := tb_in (tk8 (List.mem_of_getElem? (i := 233) rfl)) rfl
theorem tw_1929 : (Jvm.Cond.fieldLink "java/lang/String" (15 : Nat) "java/lang/String" "coder" "B") ∈ TBG := tb_in (tk9 (List.mem_of_getElem? (i := 9) rfl)) rfl
theorem tw_1930 : (Jvm.Cond.fieldLink "java/lang/String" (9 : Nat) "java/lang/String" "value" "[B") ∈ TBG := tb_in (tk9 (List.mem_of_getElem? (i := 10) rfl)) rfl
theorem ts_yX10_append : Cond.selects "DustParish" yX10_append yX10_append ∈ TBG := tb_pr (n := 15) (tp1 (List.mem_of_getElem? (i := 0) rfl))
theorem ts_yX10_refuse : Cond.selects "DustParish" yX10_refuse yX10_refuse ∈ TBG := tb_pr (n := 15) (tp1 (List.mem_of_getElem? (i := 1) rfl))
theorem ts_yX9_takeNumber : Cond.selects "DustParish$Tokens" yX9_takeNumber yX9_takeNumber ∈ TBG := tb_pr (n := 7) (tp1 (List.mem_of_getElem? (i := 3) rfl))
theorem ts_yX4_readLine : Cond.selects "DustParish$Reader" yX4_readLine yX4_readLine ∈ TBG := tb_pr (n := 8) (tp1 (List.mem_of_getElem? (i := 4) rfl))
theorem ts_yX4_readRoom : Cond.selects "DustParish$Reader" yX4_readRoom yX4_readRoom ∈ TBG := tb_pr (n := 8) (tp1 (List.mem_of_getElem? (i := 5) rfl))
theorem ts_yX4_readNumber : Cond.selects "DustParish$Reader" yX4_readNumber yX4_readNumber ∈ TBG := tb_pr (n := 8) (tp1 (List.mem_of_getElem? (i := 6) rfl))
theorem ts_yX4_lookAtNumber : Cond.selects "DustParish$Reader" yX4_lookAtNumber yX4_lookAtNumber ∈ TBG := tb_pr (n := 8) (tp1 (List.mem_of_getElem? (i := 7) rfl))
theorem ts_yX4_readDoor : Cond.selects "DustParish$Reader" yX4_readDoor yX4_readDoor ∈ TBG := tb_pr (n := 8) (tp1 (List.mem_of_getElem? (i := 8) rfl))
theorem ts_yX4_readRoomNumber : Cond.selects "DustParish$Reader" yX4_readRoomNumber yX4_readRoomNumber ∈ TBG := tb_pr (n := 8) (tp1 (List.mem_of_getElem? (i := 9) rfl))
theorem ts_yX4_lookAtRoomNumber : Cond.selects "DustParish$Reader" yX4_lookAtRoomNumber yX4_lookAtRoomNumber ∈ TBG := tb_pr (n := 8) (tp1 (List.mem_of_getElem? (i := 10) rfl))
theorem ts_yX2_behind : Cond.selects "DustParish$Facts" yX2_behind yX2_behind ∈ TBG := tb_pr (n := 20) (tp1 (List.mem_of_getElem? (i := 11) rfl))
theorem ts_yX4_readWind : Cond.selects "DustParish$Reader" yX4_readWind yX4_readWind ∈ TBG := tb_pr (n := 8) (tp1 (List.mem_of_getElem? (i := 12) rfl))
theorem ts_yX4_readBlow : Cond.selects "DustParish$Reader" yX4_readBlow yX4_readBlow ∈ TBG := tb_pr (n := 8) (tp1 (List.mem_of_getElem? (i := 13) rfl))
theorem ts_yX4_readCalendar : Cond.selects "DustParish$Reader" yX4_readCalendar yX4_readCalendar ∈ TBG := tb_pr (n := 8) (tp1 (List.mem_of_getElem? (i := 14) rfl))
theorem ts_yX4_readEvery : Cond.selects "DustParish$Reader" yX4_readEvery yX4_readEvery ∈ TBG := tb_pr (n := 8) (tp1 (List.mem_of_getElem? (i := 15) rfl))
theorem ts_yX4_readClean : Cond.selects "DustParish$Reader" yX4_readClean yX4_readClean ∈ TBG := tb_pr (n := 8) (tp2 (List.mem_of_getElem? (i := 0) rfl))
theorem ts_yX6_wantNot : Cond.selects "DustParish$RuleReader" yX6_wantNot yX6_wantNot ∈ TBG := tb_pr (n := 8) (tp2 (List.mem_of_getElem? (i := 1) rfl))
theorem ts_yX6_wantPart : Cond.selects "DustParish$RuleReader" yX6_wantPart yX6_wantPart ∈ TBG := tb_pr (n := 8) (tp2 (List.mem_of_getElem? (i := 2) rfl))
theorem ts_yX6_release : Cond.selects "DustParish$RuleReader" yX6_release yX6_release ∈ TBG := tb_pr (n := 8) (tp2 (List.mem_of_getElem? (i := 3) rfl))
theorem ts_yX6_readPart : Cond.selects "DustParish$RuleReader" yX6_readPart yX6_readPart ∈ TBG := tb_pr (n := 8) (tp2 (List.mem_of_getElem? (i := 4) rfl))
theorem ts_yX6_hold : Cond.selects "DustParish$RuleReader" yX6_hold yX6_hold ∈ TBG := tb_pr (n := 8) (tp2 (List.mem_of_getElem? (i := 5) rfl))
theorem ts_yX6_valueAtHand : Cond.selects "DustParish$RuleReader" yX6_valueAtHand yX6_valueAtHand ∈ TBG := tb_pr (n := 8) (tp2 (List.mem_of_getElem? (i := 6) rfl))
theorem ts_yX6_readSign : Cond.selects "DustParish$RuleReader" yX6_readSign yX6_readSign ∈ TBG := tb_pr (n := 8) (tp2 (List.mem_of_getElem? (i := 7) rfl))
theorem ts_yX6_close : Cond.selects "DustParish$RuleReader" yX6_close yX6_close ∈ TBG := tb_pr (n := 8) (tp2 (List.mem_of_getElem? (i := 8) rfl))
theorem ts_yX6_signAtHand : Cond.selects "DustParish$RuleReader" yX6_signAtHand yX6_signAtHand ∈ TBG := tb_pr (n := 8) (tp2 (List.mem_of_getElem? (i := 9) rfl))
theorem ts_yX6_strengthWaiting : Cond.selects "DustParish$RuleReader" yX6_strengthWaiting yX6_strengthWaiting ∈ TBG := tb_pr (n := 8) (tp2 (List.mem_of_getElem? (i := 10) rfl))
theorem ts_yX2_shortenBy : Cond.selects "DustParish$Facts" yX2_shortenBy yX2_shortenBy ∈ TBG := tb_pr (n := 20) (tp2 (List.mem_of_getElem? (i := 11) rfl))
theorem ts_yX10_needRoom : Cond.selects "DustParish" yX10_needRoom yX10_needRoom ∈ TBG := tb_pr (n := 15) (tp2 (List.mem_of_getElem? (i := 12) rfl))
theorem ts_yX10_tryDays : Cond.selects "DustParish" yX10_tryDays yX10_tryDays ∈ TBG := tb_pr (n := 15) (tp2 (List.mem_of_getElem? (i := 13) rfl))
theorem ts_yX10_findOrder : Cond.selects "DustParish" yX10_findOrder yX10_findOrder ∈ TBG := tb_pr (n := 15) (tp2 (List.mem_of_getElem? (i := 14) rfl))
theorem ts_yX10_walkAll : Cond.selects "DustParish" yX10_walkAll yX10_walkAll ∈ TBG := tb_pr (n := 15) (tp2 (List.mem_of_getElem? (i := 15) rfl))
theorem ts_yX10_walkTo : Cond.selects "DustParish" yX10_walkTo yX10_walkTo ∈ TBG := tb_pr (n := 15) (tp3 (List.mem_of_getElem? (i := 0) rfl))
theorem ts_yX10_evenest : Cond.selects "DustParish" yX10_evenest yX10_evenest ∈ TBG := tb_pr (n := 15) (tp3 (List.mem_of_getElem? (i := 1) rfl))
theorem ts_yX10_carryGrains : Cond.selects "DustParish" yX10_carryGrains yX10_carryGrains ∈ TBG := tb_pr (n := 15) (tp3 (List.mem_of_getElem? (i := 2) rfl))
theorem ts_yX10_tryChange : Cond.selects "DustParish" yX10_tryChange yX10_tryChange ∈ TBG := tb_pr (n := 15) (tp3 (List.mem_of_getElem? (i := 3) rfl))
theorem ts_yX10_wouldBeSo : Cond.selects "DustParish" yX10_wouldBeSo yX10_wouldBeSo ∈ TBG := tb_pr (n := 15) (tp3 (List.mem_of_getElem? (i := 4) rfl))
theorem ts_yX10_lowestRoom : Cond.selects "DustParish" yX10_lowestRoom yX10_lowestRoom ∈ TBG := tb_pr (n := 15) (tp3 (List.mem_of_getElem? (i := 5) rfl))
theorem ts_yX10_rests : Cond.selects "DustParish" yX10_rests yX10_rests ∈ TBG := tb_pr (n := 15) (tp3 (List.mem_of_getElem? (i := 6) rfl))
theorem ts_yX10_lossOf : Cond.selects "DustParish" yX10_lossOf yX10_lossOf ∈ TBG := tb_pr (n := 15) (tp3 (List.mem_of_getElem? (i := 7) rfl))
theorem ts_yX10_happen : Cond.selects "DustParish" yX10_happen yX10_happen ∈ TBG := tb_pr (n := 15) (tp3 (List.mem_of_getElem? (i := 8) rfl))
theorem ts_yX10_fullestTrialRoom : Cond.selects "DustParish" yX10_fullestTrialRoom yX10_fullestTrialRoom ∈ TBG := tb_pr (n := 15) (tp3 (List.mem_of_getElem? (i := 9) rfl))
theorem ts_yX11_fail : Cond.selects "DustParishModel" yX11_fail yX11_fail ∈ TBG := tb_pr (n := 63) (tp3 (List.mem_of_getElem? (i := 10) rfl))
theorem ts_yX11_stepOn : Cond.selects "DustParishModel" yX11_stepOn yX11_stepOn ∈ TBG := tb_pr (n := 63) (tp3 (List.mem_of_getElem? (i := 11) rfl))
theorem ts_yX11_byteAt : Cond.selects "DustParishModel" yX11_byteAt yX11_byteAt ∈ TBG := tb_pr (n := 63) (tp3 (List.mem_of_getElem? (i := 12) rfl))
theorem ts_yX11_readLine : Cond.selects "DustParishModel" yX11_readLine yX11_readLine ∈ TBG := tb_pr (n := 63) (tp3 (List.mem_of_getElem? (i := 13) rfl))
theorem ts_yX11_is : Cond.selects "DustParishModel" yX11_is yX11_is ∈ TBG := tb_pr (n := 63) (tp3 (List.mem_of_getElem? (i := 14) rfl))
theorem ts_yX11_which : Cond.selects "DustParishModel" yX11_which yX11_which ∈ TBG := tb_pr (n := 63) (tp3 (List.mem_of_getElem? (i := 15) rfl))
theorem ts_yX11_wrong : Cond.selects "DustParishModel" yX11_wrong yX11_wrong ∈ TBG := tb_pr (n := 63) (tp4 (List.mem_of_getElem? (i := 0) rfl))
theorem ts_yX11_sayCalendar : Cond.selects "DustParishModel" yX11_sayCalendar yX11_sayCalendar ∈ TBG := tb_pr (n := 63) (tp4 (List.mem_of_getElem? (i := 1) rfl))
theorem ts_yX11_numberNow : Cond.selects "DustParishModel" yX11_numberNow yX11_numberNow ∈ TBG := tb_pr (n := 63) (tp4 (List.mem_of_getElem? (i := 2) rfl))
theorem ts_yX11_readNumber : Cond.selects "DustParishModel" yX11_readNumber yX11_readNumber ∈ TBG := tb_pr (n := 63) (tp4 (List.mem_of_getElem? (i := 3) rfl))
theorem ts_yX11_readExpression : Cond.selects "DustParishModel" yX11_readExpression yX11_readExpression ∈ TBG := tb_pr (n := 63) (tp4 (List.mem_of_getElem? (i := 4) rfl))
theorem ts_yX11_isMarked : Cond.selects "DustParishModel" yX11_isMarked yX11_isMarked ∈ TBG := tb_pr (n := 63) (tp4 (List.mem_of_getElem? (i := 5) rfl))
theorem ts_yX11_readAnd : Cond.selects "DustParishModel" yX11_readAnd yX11_readAnd ∈ TBG := tb_pr (n := 63) (tp4 (List.mem_of_getElem? (i := 6) rfl))
theorem ts_yX11_readNot : Cond.selects "DustParishModel" yX11_readNot yX11_readNot ∈ TBG := tb_pr (n := 63) (tp4 (List.mem_of_getElem? (i := 7) rfl))
theorem ts_yX11_readSum : Cond.selects "DustParishModel" yX11_readSum yX11_readSum ∈ TBG := tb_pr (n := 63) (tp4 (List.mem_of_getElem? (i := 8) rfl))
theorem ts_yX11_readProduct : Cond.selects "DustParishModel" yX11_readProduct yX11_readProduct ∈ TBG := tb_pr (n := 63) (tp4 (List.mem_of_getElem? (i := 9) rfl))
theorem ts_yX11_readPart : Cond.selects "DustParishModel" yX11_readPart yX11_readPart ∈ TBG := tb_pr (n := 63) (tp4 (List.mem_of_getElem? (i := 10) rfl))
theorem ts_yX11_lay : Cond.selects "DustParishModel" yX11_lay yX11_lay ∈ TBG := tb_pr (n := 63) (tp4 (List.mem_of_getElem? (i := 11) rfl))
theorem ts_yX11_mark : Cond.selects "DustParishModel" yX11_mark yX11_mark ∈ TBG := tb_pr (n := 63) (tp4 (List.mem_of_getElem? (i := 12) rfl))
theorem ts_yX11_sayRoom : Cond.selects "DustParishModel" yX11_sayRoom yX11_sayRoom ∈ TBG := tb_pr (n := 63) (tp4 (List.mem_of_getElem? (i := 13) rfl))
theorem ts_yX11_another : Cond.selects "DustParishModel" yX11_another yX11_another ∈ TBG := tb_pr (n := 63) (tp4 (List.mem_of_getElem? (i := 14) rfl))
theorem ts_yX11_sayDoor : Cond.selects "DustParishModel" yX11_sayDoor yX11_sayDoor ∈ TBG := tb_pr (n := 63) (tp4 (List.mem_of_getElem? (i := 15) rfl))
theorem ts_yX11_readRoom : Cond.selects "DustParishModel" yX11_readRoom yX11_readRoom ∈ TBG := tb_pr (n := 63) (tp5 (List.mem_of_getElem? (i := 0) rfl))
theorem ts_yX11_roomNow : Cond.selects "DustParishModel" yX11_roomNow yX11_roomNow ∈ TBG := tb_pr (n := 63) (tp5 (List.mem_of_getElem? (i := 1) rfl))
theorem ts_yX11_isDoor : Cond.selects "DustParishModel" yX11_isDoor yX11_isDoor ∈ TBG := tb_pr (n := 63) (tp5 (List.mem_of_getElem? (i := 2) rfl))
theorem ts_yX11_sayWind : Cond.selects "DustParishModel" yX11_sayWind yX11_sayWind ∈ TBG := tb_pr (n := 63) (tp5 (List.mem_of_getElem? (i := 3) rfl))
theorem ts_yX11_sayBlow : Cond.selects "DustParishModel" yX11_sayBlow yX11_sayBlow ∈ TBG := tb_pr (n := 63) (tp5 (List.mem_of_getElem? (i := 4) rfl))
theorem ts_yX11_takeOver : Cond.selects "DustParishModel" yX11_takeOver yX11_takeOver ∈ TBG := tb_pr (n := 63) (tp5 (List.mem_of_getElem? (i := 5) rfl))
theorem ts_yX11_allDust : Cond.selects "DustParishModel" yX11_allDust yX11_allDust ∈ TBG := tb_pr (n := 63) (tp5 (List.mem_of_getElem? (i := 6) rfl))
theorem ts_yX11_heretics : Cond.selects "DustParishModel" yX11_heretics yX11_heretics ∈ TBG := tb_pr (n := 63) (tp5 (List.mem_of_getElem? (i := 7) rfl))
theorem ts_yX11_isRoom : Cond.selects "DustParishModel" yX11_isRoom yX11_isRoom ∈ TBG := tb_pr (n := 63) (tp5 (List.mem_of_getElem? (i := 8) rfl))
theorem ts_yX11_tithe : Cond.selects "DustParishModel" yX11_tithe yX11_tithe ∈ TBG := tb_pr (n := 63) (tp5 (List.mem_of_getElem? (i := 9) rfl))
theorem ts_yX11_valueNow : Cond.selects "DustParishModel" yX11_valueNow yX11_valueNow ∈ TBG := tb_pr (n := 63) (tp5 (List.mem_of_getElem? (i := 10) rfl))
theorem ts_yX11_tellWays : Cond.selects "DustParishModel" yX11_tellWays yX11_tellWays ∈ TBG := tb_pr (n := 63) (tp5 (List.mem_of_getElem? (i := 11) rfl))
theorem ts_yX11_windOf : Cond.selects "DustParishModel" yX11_windOf yX11_windOf ∈ TBG := tb_pr (n := 63) (tp5 (List.mem_of_getElem? (i := 12) rfl))
theorem ts_yX11_refuse : Cond.selects "DustParishModel" yX11_refuse yX11_refuse ∈ TBG := tb_pr (n := 63) (tp5 (List.mem_of_getElem? (i := 13) rfl))
theorem ts_yX11_keep : Cond.selects "DustParishModel" yX11_keep yX11_keep ∈ TBG := tb_pr (n := 63) (tp5 (List.mem_of_getElem? (i := 14) rfl))
theorem ts_yX11_pack : Cond.selects "DustParishModel" yX11_pack yX11_pack ∈ TBG := tb_pr (n := 63) (tp5 (List.mem_of_getElem? (i := 15) rfl))
theorem ts_yX11_goOn : Cond.selects "DustParishModel" yX11_goOn yX11_goOn ∈ TBG := tb_pr (n := 63) (tp6 (List.mem_of_getElem? (i := 0) rfl))
theorem ts_yX11_aDay : Cond.selects "DustParishModel" yX11_aDay yX11_aDay ∈ TBG := tb_pr (n := 63) (tp6 (List.mem_of_getElem? (i := 1) rfl))
theorem ts_yX11_passes : Cond.selects "DustParishModel" yX11_passes yX11_passes ∈ TBG := tb_pr (n := 63) (tp6 (List.mem_of_getElem? (i := 2) rfl))
theorem ts_yX11_settle : Cond.selects "DustParishModel" yX11_settle yX11_settle ∈ TBG := tb_pr (n := 63) (tp6 (List.mem_of_getElem? (i := 3) rfl))
theorem ts_yX11_lays : Cond.selects "DustParishModel" yX11_lays yX11_lays ∈ TBG := tb_pr (n := 63) (tp6 (List.mem_of_getElem? (i := 4) rfl))
theorem ts_yX11_blows : Cond.selects "DustParishModel" yX11_blows yX11_blows ∈ TBG := tb_pr (n := 63) (tp6 (List.mem_of_getElem? (i := 5) rfl))
theorem ts_yX11_church : Cond.selects "DustParishModel" yX11_church yX11_church ∈ TBG := tb_pr (n := 63) (tp6 (List.mem_of_getElem? (i := 6) rfl))
theorem ts_yX11_hasDoor : Cond.selects "DustParishModel" yX11_hasDoor yX11_hasDoor ∈ TBG := tb_pr (n := 63) (tp6 (List.mem_of_getElem? (i := 7) rfl))
theorem ts_yX11_bring : Cond.selects "DustParishModel" yX11_bring yX11_bring ∈ TBG := tb_pr (n := 63) (tp6 (List.mem_of_getElem? (i := 8) rfl))
theorem ts_yX11_steal : Cond.selects "DustParishModel" yX11_steal yX11_steal ∈ TBG := tb_pr (n := 63) (tp6 (List.mem_of_getElem? (i := 9) rfl))
theorem ts_yX11_unpack : Cond.selects "DustParishModel" yX11_unpack yX11_unpack ∈ TBG := tb_pr (n := 63) (tp6 (List.mem_of_getElem? (i := 10) rfl))
theorem ts_yX11_takenIn : Cond.selects "DustParishModel" yX11_takenIn yX11_takenIn ∈ TBG := tb_pr (n := 63) (tp6 (List.mem_of_getElem? (i := 11) rfl))
theorem ts_yX11_goOrders : Cond.selects "DustParishModel" yX11_goOrders yX11_goOrders ∈ TBG := tb_pr (n := 63) (tp6 (List.mem_of_getElem? (i := 12) rfl))
theorem ts_yX11_byOrder : Cond.selects "DustParishModel" yX11_byOrder yX11_byOrder ∈ TBG := tb_pr (n := 63) (tp6 (List.mem_of_getElem? (i := 13) rfl))
theorem ts_yX11_sharesFrom : Cond.selects "DustParishModel" yX11_sharesFrom yX11_sharesFrom ∈ TBG := tb_pr (n := 63) (tp6 (List.mem_of_getElem? (i := 14) rfl))
theorem ts_yX11_exchange : Cond.selects "DustParishModel" yX11_exchange yX11_exchange ∈ TBG := tb_pr (n := 63) (tp6 (List.mem_of_getElem? (i := 15) rfl))
theorem ts_yX11_isAsSeen : Cond.selects "DustParishModel" yX11_isAsSeen yX11_isAsSeen ∈ TBG := tb_pr (n := 63) (tp7 (List.mem_of_getElem? (i := 0) rfl))
theorem ts_yX11_lowest : Cond.selects "DustParishModel" yX11_lowest yX11_lowest ∈ TBG := tb_pr (n := 63) (tp7 (List.mem_of_getElem? (i := 1) rfl))
theorem ts_yX11_loss : Cond.selects "DustParishModel" yX11_loss yX11_loss ∈ TBG := tb_pr (n := 63) (tp7 (List.mem_of_getElem? (i := 2) rfl))
theorem ts_yX11_something : Cond.selects "DustParishModel" yX11_something yX11_something ∈ TBG := tb_pr (n := 63) (tp7 (List.mem_of_getElem? (i := 3) rfl))
theorem ts_yX11_drawOf : Cond.selects "DustParishModel" yX11_drawOf yX11_drawOf ∈ TBG := tb_pr (n := 63) (tp7 (List.mem_of_getElem? (i := 4) rfl))
theorem ts_yX11_shakeFirst : Cond.selects "DustParishModel" yX11_shakeFirst yX11_shakeFirst ∈ TBG := tb_pr (n := 63) (tp7 (List.mem_of_getElem? (i := 5) rfl))
