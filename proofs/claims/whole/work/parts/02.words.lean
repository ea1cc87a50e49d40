/-! the good words of the tables, a row each -/
def gw : List Cond := lw_tbl.filter goodWord
theorem gwT {w : Cond} (h : w ∈ tables_1) (g : goodWord w = true) : w ∈ gw := List.mem_filter.mpr ⟨List.mem_append_right _ h, g⟩
theorem gwP {w : Cond} (h : w ∈ k2_sels lw_privs) (g : goodWord w = true) : w ∈ gw := List.mem_filter.mpr ⟨List.mem_append_left _ h, g⟩
theorem gwG {w : Cond} (h : w ∈ gw) : GoodIn gw (w :: gw) := by
  intro x hx
  have hx' : x ∈ gw := by
    rcases List.mem_cons.mp hx with e | e
    · rw [e]; exact h
    · exact e
  exact ⟨hx', good_of_word (List.mem_filter.mp hx').2⟩

theorem tb1 {w : Cond} (h : w ∈ tables_1_1) : w ∈ tables_1 := by unfold tables_1; exact List.mem_append_left _ h
theorem tb2 {w : Cond} (h : w ∈ tables_1_2) : w ∈ tables_1 := by unfold tables_1; exact List.mem_append_right _ (List.mem_append_left _ h)
theorem tb3 {w : Cond} (h : w ∈ tables_1_3) : w ∈ tables_1 := by unfold tables_1; exact List.mem_append_right _ (List.mem_append_right _ (List.mem_append_left _ h))
theorem tb4 {w : Cond} (h : w ∈ tables_1_4) : w ∈ tables_1 := by unfold tables_1; exact List.mem_append_right _ (List.mem_append_right _ (List.mem_append_right _ (List.mem_append_left _ h)))
theorem tb5 {w : Cond} (h : w ∈ tables_1_5) : w ∈ tables_1 := by unfold tables_1; exact List.mem_append_right _ (List.mem_append_right _ (List.mem_append_right _ (List.mem_append_right _ (List.mem_append_left _ h))))
theorem tb6 {w : Cond} (h : w ∈ tables_1_6) : w ∈ tables_1 := by unfold tables_1; exact List.mem_append_right _ (List.mem_append_right _ (List.mem_append_right _ (List.mem_append_right _ (List.mem_append_right _ (List.mem_append_left _ h)))))
theorem tb7 {w : Cond} (h : w ∈ tables_1_7) : w ∈ tables_1 := by unfold tables_1; exact List.mem_append_right _ (List.mem_append_right _ (List.mem_append_right _ (List.mem_append_right _ (List.mem_append_right _ (List.mem_append_right _ (List.mem_append_left _ h))))))
theorem tb8 {w : Cond} (h : w ∈ tables_1_8) : w ∈ tables_1 := by unfold tables_1; exact List.mem_append_right _ (List.mem_append_right _ (List.mem_append_right _ (List.mem_append_right _ (List.mem_append_right _ (List.mem_append_right _ (List.mem_append_right _ (h)))))))

theorem wd_0 : (Jvm.Cond.initialized "SinLensesLaw") ∈ gw := gwT (tb1 (List.mem_of_getElem? (i := 0) rfl)) rfl
theorem wd_1 : (Jvm.Cond.initialized "SinLenses") ∈ gw := gwT (tb1 (List.mem_of_getElem? (i := 1) rfl)) rfl
theorem wd_2 : (Jvm.Cond.initialized "SinLenses$Parish") ∈ gw := gwT (tb1 (List.mem_of_getElem? (i := 2) rfl)) rfl
theorem wd_3 : (Jvm.Cond.initialized "SinLenses$Trail") ∈ gw := gwT (tb1 (List.mem_of_getElem? (i := 3) rfl)) rfl
theorem wd_4 : (Jvm.Cond.initialized "SinLenses$Judge") ∈ gw := gwT (tb1 (List.mem_of_getElem? (i := 4) rfl)) rfl
theorem wd_5 : (Jvm.Cond.initialized "SinLenses$Sums") ∈ gw := gwT (tb1 (List.mem_of_getElem? (i := 5) rfl)) rfl
theorem wd_6 : (Jvm.Cond.initialized "SinLenses$Deeds") ∈ gw := gwT (tb1 (List.mem_of_getElem? (i := 6) rfl)) rfl
theorem wd_7 : (Jvm.Cond.initialized "SinLenses$Clerk") ∈ gw := gwT (tb1 (List.mem_of_getElem? (i := 7) rfl)) rfl
theorem wd_8 : (Jvm.Cond.initialized "SinLenses$Paper") ∈ gw := gwT (tb1 (List.mem_of_getElem? (i := 8) rfl)) rfl
theorem wd_9 : (Jvm.Cond.initialized "SinLenses$Reader") ∈ gw := gwT (tb1 (List.mem_of_getElem? (i := 9) rfl)) rfl
theorem wd_10 : (Jvm.Cond.initialized "SinLenses$Text") ∈ gw := gwT (tb1 (List.mem_of_getElem? (i := 10) rfl)) rfl
theorem wd_11 : (Jvm.Cond.initialized "java/lang/Math") ∈ gw := gwT (tb1 (List.mem_of_getElem? (i := 11) rfl)) rfl
theorem wd_12 : (Jvm.Cond.initialized "SinLensesModel") ∈ gw := gwT (tb1 (List.mem_of_getElem? (i := 12) rfl)) rfl
theorem wd_13 : (Jvm.Cond.initialized "SinLenses$Optics") ∈ gw := gwT (tb1 (List.mem_of_getElem? (i := 13) rfl)) rfl
theorem wd_14 : (Jvm.Cond.initialized "java/lang/String") ∈ gw := gwT (tb1 (List.mem_of_getElem? (i := 14) rfl)) rfl
theorem wd_15 : (Jvm.Cond.initialized "java/lang/StringLatin1") ∈ gw := gwT (tb1 (List.mem_of_getElem? (i := 15) rfl)) rfl
theorem wd_16 : (Jvm.Cond.initialized "jdk/internal/util/Preconditions") ∈ gw := gwT (tb1 (List.mem_of_getElem? (i := 16) rfl)) rfl
theorem wd_17 : (Jvm.Cond.initialized "java/lang/StringUTF16") ∈ gw := gwT (tb1 (List.mem_of_getElem? (i := 17) rfl)) rfl
theorem wd_18 : (Jvm.Cond.initialized "java/lang/System") ∈ gw := gwT (tb1 (List.mem_of_getElem? (i := 18) rfl)) rfl
theorem wd_19 : (Jvm.Cond.initialized "java/lang/Integer") ∈ gw := gwT (tb1 (List.mem_of_getElem? (i := 19) rfl)) rfl
theorem wd_20 : (Jvm.Cond.classLink "SinLensesLaw" (7 : Nat) "SinLenses") ∈ gw := gwT (tb1 (List.mem_of_getElem? (i := 20) rfl)) rfl
theorem wd_21 : (Jvm.Cond.instantiable "SinLenses" (13 : Nat)) ∈ gw := gwT (tb1 (List.mem_of_getElem? (i := 21) rfl)) rfl
theorem wd_22 : (Jvm.Cond.methodLink "SinLensesLaw" (9 : Nat) ({ cls := "SinLenses", name := "<init>", desc := "()V" } : Jvm.MethodName)) ∈ gw := gwT (tb1 (List.mem_of_getElem? (i := 22) rfl)) rfl
theorem wd_23 : (Jvm.Cond.instanceMethod ({ cls := "SinLenses", name := "<init>", desc := "()V" } : Jvm.MethodName)) ∈ gw := gwT (tb1 (List.mem_of_getElem? (i := 23) rfl)) rfl
theorem wd_24 : (Jvm.Cond.code ({ cls := "SinLenses", name := "<init>", desc := "()V" } : Jvm.MethodName) prog_1_method_1_code (1 : Nat) (Option.none : Option Jvm.ClassFile.FieldType)) ∈ gw := gwT (tb1 (List.mem_of_getElem? (i := 24) rfl)) rfl
theorem wd_25 : (Jvm.Cond.methodLink "SinLenses" (5 : Nat) ({ cls := "java/lang/Object", name := "<init>", desc := "()V" } : Jvm.MethodName)) ∈ gw := gwT (tb1 (List.mem_of_getElem? (i := 25) rfl)) rfl
theorem wd_26 : (Jvm.Cond.instanceMethod ({ cls := "java/lang/Object", name := "<init>", desc := "()V" } : Jvm.MethodName)) ∈ gw := gwT (tb1 (List.mem_of_getElem? (i := 26) rfl)) rfl
theorem wd_27 : (Jvm.Cond.code ({ cls := "java/lang/Object", name := "<init>", desc := "()V" } : Jvm.MethodName) object_method_1_code (1 : Nat) (Option.none : Option Jvm.ClassFile.FieldType)) ∈ gw := gwT (tb1 (List.mem_of_getElem? (i := 27) rfl)) rfl
theorem wd_28 : (Jvm.Cond.classLink "SinLenses" (11 : Nat) "SinLenses$Parish") ∈ gw := gwT (tb1 (List.mem_of_getElem? (i := 28) rfl)) rfl
theorem wd_29 : (Jvm.Cond.instantiable "SinLenses$Parish" (11 : Nat)) ∈ gw := gwT (tb1 (List.mem_of_getElem? (i := 29) rfl)) rfl
theorem wn_30 : (Jvm.Cond.methodLinkNest "SinLenses" (13 : Nat) ({ cls := "SinLenses$Parish", name := "<init>", desc := "()V" } : Jvm.MethodName) "SinLenses") ∈ tables_1 := tb1 (List.mem_of_getElem? (i := 30) rfl)
theorem wd_31 : (Jvm.Cond.instanceMethod ({ cls := "SinLenses$Parish", name := "<init>", desc := "()V" } : Jvm.MethodName)) ∈ gw := gwT (tb1 (List.mem_of_getElem? (i := 31) rfl)) rfl
theorem wd_32 : (Jvm.Cond.code ({ cls := "SinLenses$Parish", name := "<init>", desc := "()V" } : Jvm.MethodName) prog_7_method_1_code (1 : Nat) (Option.none : Option Jvm.ClassFile.FieldType)) ∈ gw := gwT (tb1 (List.mem_of_getElem? (i := 32) rfl)) rfl
theorem wd_33 : (Jvm.Cond.methodLink "SinLenses$Parish" (3 : Nat) ({ cls := "java/lang/Object", name := "<init>", desc := "()V" } : Jvm.MethodName)) ∈ gw := gwT (tb1 (List.mem_of_getElem? (i := 33) rfl)) rfl
theorem wd_34 : (Jvm.Cond.classLink "SinLenses$Parish" (30 : Nat) "SinLenses$Text") ∈ gw := gwT (tb1 (List.mem_of_getElem? (i := 34) rfl)) rfl
theorem wn_35 : (Jvm.Cond.arrayOver (Jvm.ClassFile.FieldType.object "SinLenses$Text")) ∈ tables_1 := tb1 (List.mem_of_getElem? (i := 35) rfl)
theorem wd_36 : (Jvm.Cond.fieldLink "SinLenses$Parish" (40 : Nat) "SinLenses$Parish" "people" "I") ∈ gw := gwT (tb1 (List.mem_of_getElem? (i := 36) rfl)) rfl
theorem wn_37 : (Jvm.Cond.fieldLinkNest "SinLenses" (75 : Nat) "SinLenses$Parish" "people" "I" "SinLenses") ∈ tables_1 := tb1 (List.mem_of_getElem? (i := 37) rfl)
theorem wn_38 : (Jvm.Cond.fieldLinkNest "SinLenses$Deeds" (93 : Nat) "SinLenses$Parish" "people" "I" "SinLenses") ∈ tables_1 := tb1 (List.mem_of_getElem? (i := 38) rfl)
theorem wn_39 : (Jvm.Cond.fieldLinkNest "SinLenses$Paper" (105 : Nat) "SinLenses$Parish" "people" "I" "SinLenses") ∈ tables_1 := tb1 (List.mem_of_getElem? (i := 39) rfl)
theorem wd_40 : (Jvm.Cond.fieldLink "SinLenses$Parish" (9 : Nat) "SinLenses$Parish" "sins" "[I") ∈ gw := gwT (tb1 (List.mem_of_getElem? (i := 40) rfl)) rfl
theorem wn_41 : (Jvm.Cond.fieldLinkNest "SinLenses$Trail" (34 : Nat) "SinLenses$Parish" "sins" "[I" "SinLenses") ∈ tables_1 := tb1 (List.mem_of_getElem? (i := 41) rfl)
theorem wd_42 : (Jvm.Cond.fieldLink "SinLenses$Parish" (15 : Nat) "SinLenses$Parish" "glasses" "[I") ∈ gw := gwT (tb1 (List.mem_of_getElem? (i := 42) rfl)) rfl
theorem wn_43 : (Jvm.Cond.fieldLinkNest "SinLenses$Trail" (39 : Nat) "SinLenses$Parish" "glasses" "[I" "SinLenses") ∈ tables_1 := tb1 (List.mem_of_getElem? (i := 43) rfl)
theorem wd_44 : (Jvm.Cond.fieldLink "SinLenses$Parish" (18 : Nat) "SinLenses$Parish" "wants" "[I") ∈ gw := gwT (tb1 (List.mem_of_getElem? (i := 44) rfl)) rfl
theorem wd_45 : (Jvm.Cond.fieldLink "SinLenses$Parish" (21 : Nat) "SinLenses$Parish" "termValues" "[I") ∈ gw := gwT (tb1 (List.mem_of_getElem? (i := 45) rfl)) rfl
theorem wd_46 : (Jvm.Cond.fieldLink "SinLenses$Parish" (49 : Nat) "SinLenses$Parish" "seen" "I") ∈ gw := gwT (tb1 (List.mem_of_getElem? (i := 46) rfl)) rfl
theorem wn_47 : (Jvm.Cond.fieldLinkNest "SinLenses$Paper" (89 : Nat) "SinLenses$Parish" "seen" "I" "SinLenses") ∈ tables_1 := tb1 (List.mem_of_getElem? (i := 47) rfl)
theorem wn_48 : (Jvm.Cond.fieldLinkNest "SinLenses" (256 : Nat) "SinLenses$Parish" "seen" "I" "SinLenses") ∈ tables_1 := tb1 (List.mem_of_getElem? (i := 48) rfl)
theorem wd_49 : (Jvm.Cond.fieldLink "SinLenses$Parish" (24 : Nat) "SinLenses$Parish" "seenBy" "[I") ∈ gw := gwT (tb1 (List.mem_of_getElem? (i := 49) rfl)) rfl
theorem wn_50 : (Jvm.Cond.fieldLinkNest "SinLenses$Paper" (93 : Nat) "SinLenses$Parish" "seenBy" "[I" "SinLenses") ∈ tables_1 := tb1 (List.mem_of_getElem? (i := 50) rfl)
theorem wd_51 : (Jvm.Cond.fieldLink "SinLenses$Parish" (27 : Nat) "SinLenses$Parish" "seenAs" "[I") ∈ gw := gwT (tb1 (List.mem_of_getElem? (i := 51) rfl)) rfl
theorem wn_52 : (Jvm.Cond.fieldLinkNest "SinLenses$Paper" (102 : Nat) "SinLenses$Parish" "seenAs" "[I" "SinLenses") ∈ tables_1 := tb1 (List.mem_of_getElem? (i := 52) rfl)
theorem wd_53 : (Jvm.Cond.fieldLink "SinLenses$Parish" (52 : Nat) "SinLenses$Parish" "lawCount" "I") ∈ gw := gwT (tb1 (List.mem_of_getElem? (i := 53) rfl)) rfl
theorem wn_54 : (Jvm.Cond.fieldLinkNest "SinLenses" (190 : Nat) "SinLenses$Parish" "lawCount" "I" "SinLenses") ∈ tables_1 := tb1 (List.mem_of_getElem? (i := 54) rfl)
theorem wd_55 : (Jvm.Cond.fieldLink "SinLenses$Parish" (32 : Nat) "SinLenses$Parish" "laws" "[LSinLenses$Text;") ∈ gw := gwT (tb1 (List.mem_of_getElem? (i := 55) rfl)) rfl
theorem wd_56 : (Jvm.Cond.fieldLink "SinLenses$Parish" (36 : Nat) "SinLenses$Parish" "inForce" "I") ∈ gw := gwT (tb1 (List.mem_of_getElem? (i := 56) rfl)) rfl
theorem wn_57 : (Jvm.Cond.fieldLinkNest "SinLenses" (236 : Nat) "SinLenses$Parish" "inForce" "I" "SinLenses") ∈ tables_1 := tb1 (List.mem_of_getElem? (i := 57) rfl)
theorem wd_58 : (Jvm.Cond.lays "SinLenses$Parish" "SinLenses$Parish" "people" "I") ∈ gw := gwT (tb1 (List.mem_of_getElem? (i := 58) rfl)) rfl
theorem wd_60 : (Jvm.Cond.laysFinal "SinLenses$Parish" "SinLenses$Parish" "sins" "[I") ∈ gw := gwT (tb1 (List.mem_of_getElem? (i := 60) rfl)) rfl
theorem wd_62 : (Jvm.Cond.laysFinal "SinLenses$Parish" "SinLenses$Parish" "glasses" "[I") ∈ gw := gwT (tb1 (List.mem_of_getElem? (i := 62) rfl)) rfl
theorem wd_64 : (Jvm.Cond.laysFinal "SinLenses$Parish" "SinLenses$Parish" "wants" "[I") ∈ gw := gwT (tb1 (List.mem_of_getElem? (i := 64) rfl)) rfl
theorem wd_66 : (Jvm.Cond.laysFinal "SinLenses$Parish" "SinLenses$Parish" "termValues" "[I") ∈ gw := gwT (tb1 (List.mem_of_getElem? (i := 66) rfl)) rfl
theorem wd_68 : (Jvm.Cond.lays "SinLenses$Parish" "SinLenses$Parish" "seen" "I") ∈ gw := gwT (tb1 (List.mem_of_getElem? (i := 68) rfl)) rfl
theorem wd_70 : (Jvm.Cond.laysFinal "SinLenses$Parish" "SinLenses$Parish" "seenBy" "[I") ∈ gw := gwT (tb1 (List.mem_of_getElem? (i := 70) rfl)) rfl
theorem wd_72 : (Jvm.Cond.laysFinal "SinLenses$Parish" "SinLenses$Parish" "seenAs" "[I") ∈ gw := gwT (tb1 (List.mem_of_getElem? (i := 72) rfl)) rfl
theorem wd_74 : (Jvm.Cond.lays "SinLenses$Parish" "SinLenses$Parish" "lawCount" "I") ∈ gw := gwT (tb1 (List.mem_of_getElem? (i := 74) rfl)) rfl
theorem wd_76 : (Jvm.Cond.laysFinal "SinLenses$Parish" "SinLenses$Parish" "laws" "[LSinLenses$Text;") ∈ gw := gwT (tb1 (List.mem_of_getElem? (i := 76) rfl)) rfl
theorem wd_78 : (Jvm.Cond.lays "SinLenses$Parish" "SinLenses$Parish" "inForce" "I") ∈ gw := gwT (tb1 (List.mem_of_getElem? (i := 78) rfl)) rfl
theorem wd_81 : (Jvm.Cond.arrayClass Jvm.ClassFile.FieldType.int) ∈ gw := gwT (tb1 (List.mem_of_getElem? (i := 81) rfl)) rfl
theorem wn_82 : (Jvm.Cond.arrayOver (Jvm.ClassFile.FieldType.object "SinLenses$Parish")) ∈ tables_1 := tb1 (List.mem_of_getElem? (i := 82) rfl)
theorem wd_83 : (Jvm.Cond.classLink "SinLenses" (25 : Nat) "SinLenses$Trail") ∈ gw := gwT (tb1 (List.mem_of_getElem? (i := 83) rfl)) rfl
theorem wd_84 : (Jvm.Cond.instantiable "SinLenses$Trail" (3 : Nat)) ∈ gw := gwT (tb1 (List.mem_of_getElem? (i := 84) rfl)) rfl
theorem wn_85 : (Jvm.Cond.methodLinkNest "SinLenses" (27 : Nat) ({ cls := "SinLenses$Trail", name := "<init>", desc := "()V" } : Jvm.MethodName) "SinLenses") ∈ tables_1 := tb1 (List.mem_of_getElem? (i := 85) rfl)
theorem wd_86 : (Jvm.Cond.instanceMethod ({ cls := "SinLenses$Trail", name := "<init>", desc := "()V" } : Jvm.MethodName)) ∈ gw := gwT (tb1 (List.mem_of_getElem? (i := 86) rfl)) rfl
theorem wd_87 : (Jvm.Cond.code ({ cls := "SinLenses$Trail", name := "<init>", desc := "()V" } : Jvm.MethodName) prog_11_method_1_code (1 : Nat) (Option.none : Option Jvm.ClassFile.FieldType)) ∈ gw := gwT (tb1 (List.mem_of_getElem? (i := 87) rfl)) rfl
theorem wd_88 : (Jvm.Cond.methodLink "SinLenses$Trail" (5 : Nat) ({ cls := "java/lang/Object", name := "<init>", desc := "()V" } : Jvm.MethodName)) ∈ gw := gwT (tb1 (List.mem_of_getElem? (i := 88) rfl)) rfl
theorem wd_89 : (Jvm.Cond.fieldLink "SinLenses$Trail" (11 : Nat) "SinLenses$Trail" "rows" "[I") ∈ gw := gwT (tb1 (List.mem_of_getElem? (i := 89) rfl)) rfl
theorem wd_90 : (Jvm.Cond.fieldLink "SinLenses$Trail" (25 : Nat) "SinLenses$Trail" "next" "I") ∈ gw := gwT (tb1 (List.mem_of_getElem? (i := 90) rfl)) rfl
theorem wd_91 : (Jvm.Cond.fieldLink "SinLenses$Trail" (15 : Nat) "SinLenses$Trail" "held" "I") ∈ gw := gwT (tb1 (List.mem_of_getElem? (i := 91) rfl)) rfl
theorem wn_92 : (Jvm.Cond.fieldLinkNest "SinLenses" (246 : Nat) "SinLenses$Trail" "held" "I" "SinLenses") ∈ tables_1 := tb1 (List.mem_of_getElem? (i := 92) rfl)
theorem wd_93 : (Jvm.Cond.laysFinal "SinLenses$Trail" "SinLenses$Trail" "rows" "[I") ∈ gw := gwT (tb1 (List.mem_of_getElem? (i := 93) rfl)) rfl
theorem wd_95 : (Jvm.Cond.lays "SinLenses$Trail" "SinLenses$Trail" "next" "I") ∈ gw := gwT (tb1 (List.mem_of_getElem? (i := 95) rfl)) rfl
theorem wd_97 : (Jvm.Cond.lays "SinLenses$Trail" "SinLenses$Trail" "held" "I") ∈ gw := gwT (tb1 (List.mem_of_getElem? (i := 97) rfl)) rfl
theorem wd_100 : (Jvm.Cond.classLink "SinLenses" (32 : Nat) "SinLenses$Judge") ∈ gw := gwT (tb1 (List.mem_of_getElem? (i := 100) rfl)) rfl
theorem wd_101 : (Jvm.Cond.instantiable "SinLenses$Judge" (2 : Nat)) ∈ gw := gwT (tb1 (List.mem_of_getElem? (i := 101) rfl)) rfl
theorem wn_102 : (Jvm.Cond.methodLinkNest "SinLenses" (34 : Nat) ({ cls := "SinLenses$Judge", name := "<init>", desc := "()V" } : Jvm.MethodName) "SinLenses") ∈ tables_1 := tb1 (List.mem_of_getElem? (i := 102) rfl)
theorem wd_103 : (Jvm.Cond.instanceMethod ({ cls := "SinLenses$Judge", name := "<init>", desc := "()V" } : Jvm.MethodName)) ∈ gw := gwT (tb1 (List.mem_of_getElem? (i := 103) rfl)) rfl
theorem wd_104 : (Jvm.Cond.code ({ cls := "SinLenses$Judge", name := "<init>", desc := "()V" } : Jvm.MethodName) prog_4_method_1_code (1 : Nat) (Option.none : Option Jvm.ClassFile.FieldType)) ∈ gw := gwT (tb1 (List.mem_of_getElem? (i := 104) rfl)) rfl
theorem wd_105 : (Jvm.Cond.methodLink "SinLenses$Judge" (3 : Nat) ({ cls := "java/lang/Object", name := "<init>", desc := "()V" } : Jvm.MethodName)) ∈ gw := gwT (tb1 (List.mem_of_getElem? (i := 105) rfl)) rfl
theorem wd_106 : (Jvm.Cond.classLink "SinLenses$Judge" (15 : Nat) "SinLenses$Sums") ∈ gw := gwT (tb1 (List.mem_of_getElem? (i := 106) rfl)) rfl
theorem wd_107 : (Jvm.Cond.instantiable "SinLenses$Sums" (1 : Nat)) ∈ gw := gwT (tb1 (List.mem_of_getElem? (i := 107) rfl)) rfl
theorem wn_108 : (Jvm.Cond.methodLinkNest "SinLenses$Judge" (17 : Nat) ({ cls := "SinLenses$Sums", name := "<init>", desc := "()V" } : Jvm.MethodName) "SinLenses") ∈ tables_1 := tb1 (List.mem_of_getElem? (i := 108) rfl)
theorem wd_109 : (Jvm.Cond.instanceMethod ({ cls := "SinLenses$Sums", name := "<init>", desc := "()V" } : Jvm.MethodName)) ∈ gw := gwT (tb1 (List.mem_of_getElem? (i := 109) rfl)) rfl
theorem wd_110 : (Jvm.Cond.code ({ cls := "SinLenses$Sums", name := "<init>", desc := "()V" } : Jvm.MethodName) prog_9_method_1_code (1 : Nat) (Option.none : Option Jvm.ClassFile.FieldType)) ∈ gw := gwT (tb1 (List.mem_of_getElem? (i := 110) rfl)) rfl
theorem wd_111 : (Jvm.Cond.methodLink "SinLenses$Sums" (3 : Nat) ({ cls := "java/lang/Object", name := "<init>", desc := "()V" } : Jvm.MethodName)) ∈ gw := gwT (tb1 (List.mem_of_getElem? (i := 111) rfl)) rfl
theorem wd_112 : (Jvm.Cond.fieldLink "SinLenses$Sums" (11 : Nat) "SinLenses$Sums" "stack" "[J") ∈ gw := gwT (tb1 (List.mem_of_getElem? (i := 112) rfl)) rfl
theorem wd_113 : (Jvm.Cond.laysFinal "SinLenses$Sums" "SinLenses$Sums" "stack" "[J") ∈ gw := gwT (tb1 (List.mem_of_getElem? (i := 113) rfl)) rfl
theorem wd_116 : (Jvm.Cond.arrayClass Jvm.ClassFile.FieldType.long) ∈ gw := gwT (tb1 (List.mem_of_getElem? (i := 116) rfl)) rfl
theorem wd_117 : (Jvm.Cond.fieldLink "SinLenses$Judge" (9 : Nat) "SinLenses$Judge" "words" "[I") ∈ gw := gwT (tb1 (List.mem_of_getElem? (i := 117) rfl)) rfl
theorem wd_118 : (Jvm.Cond.fieldLink "SinLenses$Judge" (18 : Nat) "SinLenses$Judge" "sums" "LSinLenses$Sums;") ∈ gw := gwT (tb1 (List.mem_of_getElem? (i := 118) rfl)) rfl
theorem wd_119 : (Jvm.Cond.laysFinal "SinLenses$Judge" "SinLenses$Judge" "words" "[I") ∈ gw := gwT (tb1 (List.mem_of_getElem? (i := 119) rfl)) rfl
theorem wd_121 : (Jvm.Cond.laysFinal "SinLenses$Judge" "SinLenses$Judge" "sums" "LSinLenses$Sums;") ∈ gw := gwT (tb1 (List.mem_of_getElem? (i := 121) rfl)) rfl
theorem wd_124 : (Jvm.Cond.classLink "SinLenses" (39 : Nat) "SinLenses$Deeds") ∈ gw := gwT (tb1 (List.mem_of_getElem? (i := 124) rfl)) rfl
theorem wd_125 : (Jvm.Cond.instantiable "SinLenses$Deeds" (2 : Nat)) ∈ gw := gwT (tb1 (List.mem_of_getElem? (i := 125) rfl)) rfl
theorem wn_126 : (Jvm.Cond.methodLinkNest "SinLenses" (41 : Nat) ({ cls := "SinLenses$Deeds", name := "<init>", desc := "()V" } : Jvm.MethodName) "SinLenses") ∈ tables_1 := tb1 (List.mem_of_getElem? (i := 126) rfl)
theorem wd_127 : (Jvm.Cond.instanceMethod ({ cls := "SinLenses$Deeds", name := "<init>", desc := "()V" } : Jvm.MethodName)) ∈ gw := gwT (tb1 (List.mem_of_getElem? (i := 127) rfl)) rfl
theorem wd_128 : (Jvm.Cond.code ({ cls := "SinLenses$Deeds", name := "<init>", desc := "()V" } : Jvm.MethodName) prog_3_method_1_code (1 : Nat) (Option.none : Option Jvm.ClassFile.FieldType)) ∈ gw := gwT (tb1 (List.mem_of_getElem? (i := 128) rfl)) rfl
theorem wd_129 : (Jvm.Cond.methodLink "SinLenses$Deeds" (3 : Nat) ({ cls := "java/lang/Object", name := "<init>", desc := "()V" } : Jvm.MethodName)) ∈ gw := gwT (tb1 (List.mem_of_getElem? (i := 129) rfl)) rfl
theorem wd_130 : (Jvm.Cond.classLink "SinLenses$Deeds" (9 : Nat) "SinLenses$Judge") ∈ gw := gwT (tb1 (List.mem_of_getElem? (i := 130) rfl)) rfl
theorem wn_131 : (Jvm.Cond.methodLinkNest "SinLenses$Deeds" (11 : Nat) ({ cls := "SinLenses$Judge", name := "<init>", desc := "()V" } : Jvm.MethodName) "SinLenses") ∈ tables_1 := tb1 (List.mem_of_getElem? (i := 131) rfl)
theorem wd_132 : (Jvm.Cond.fieldLink "SinLenses$Deeds" (12 : Nat) "SinLenses$Deeds" "judge" "LSinLenses$Judge;") ∈ gw := gwT (tb1 (List.mem_of_getElem? (i := 132) rfl)) rfl
theorem wd_133 : (Jvm.Cond.fieldLink "SinLenses$Deeds" (18 : Nat) "SinLenses$Deeds" "growths" "[I") ∈ gw := gwT (tb1 (List.mem_of_getElem? (i := 133) rfl)) rfl
theorem wd_134 : (Jvm.Cond.laysFinal "SinLenses$Deeds" "SinLenses$Deeds" "judge" "LSinLenses$Judge;") ∈ gw := gwT (tb1 (List.mem_of_getElem? (i := 134) rfl)) rfl
theorem wd_136 : (Jvm.Cond.laysFinal "SinLenses$Deeds" "SinLenses$Deeds" "growths" "[I") ∈ gw := gwT (tb1 (List.mem_of_getElem? (i := 136) rfl)) rfl
theorem wd_139 : (Jvm.Cond.classLink "SinLenses" (46 : Nat) "SinLenses$Clerk") ∈ gw := gwT (tb1 (List.mem_of_getElem? (i := 139) rfl)) rfl
theorem wd_140 : (Jvm.Cond.instantiable "SinLenses$Clerk" (8 : Nat)) ∈ gw := gwT (tb1 (List.mem_of_getElem? (i := 140) rfl)) rfl
theorem wn_141 : (Jvm.Cond.methodLinkNest "SinLenses" (48 : Nat) ({ cls := "SinLenses$Clerk", name := "<init>", desc := "()V" } : Jvm.MethodName) "SinLenses") ∈ tables_1 := tb1 (List.mem_of_getElem? (i := 141) rfl)
theorem wd_142 : (Jvm.Cond.instanceMethod ({ cls := "SinLenses$Clerk", name := "<init>", desc := "()V" } : Jvm.MethodName)) ∈ gw := gwT (tb1 (List.mem_of_getElem? (i := 142) rfl)) rfl
theorem wd_143 : (Jvm.Cond.code ({ cls := "SinLenses$Clerk", name := "<init>", desc := "()V" } : Jvm.MethodName) prog_2_method_1_code (1 : Nat) (Option.none : Option Jvm.ClassFile.FieldType)) ∈ gw := gwT (tb1 (List.mem_of_getElem? (i := 143) rfl)) rfl
theorem wd_144 : (Jvm.Cond.methodLink "SinLenses$Clerk" (3 : Nat) ({ cls := "java/lang/Object", name := "<init>", desc := "()V" } : Jvm.MethodName)) ∈ gw := gwT (tb1 (List.mem_of_getElem? (i := 144) rfl)) rfl
theorem wd_145 : (Jvm.Cond.classLink "SinLenses$Clerk" (9 : Nat) "SinLenses$Parish") ∈ gw := gwT (tb1 (List.mem_of_getElem? (i := 145) rfl)) rfl
theorem wn_146 : (Jvm.Cond.methodLinkNest "SinLenses$Clerk" (11 : Nat) ({ cls := "SinLenses$Parish", name := "<init>", desc := "()V" } : Jvm.MethodName) "SinLenses") ∈ tables_1 := tb1 (List.mem_of_getElem? (i := 146) rfl)
theorem wd_147 : (Jvm.Cond.classLink "SinLenses$Clerk" (18 : Nat) "SinLenses$Trail") ∈ gw := gwT (tb1 (List.mem_of_getElem? (i := 147) rfl)) rfl
theorem wn_148 : (Jvm.Cond.methodLinkNest "SinLenses$Clerk" (20 : Nat) ({ cls := "SinLenses$Trail", name := "<init>", desc := "()V" } : Jvm.MethodName) "SinLenses") ∈ tables_1 := tb1 (List.mem_of_getElem? (i := 148) rfl)
theorem wd_149 : (Jvm.Cond.classLink "SinLenses$Clerk" (25 : Nat) "SinLenses$Judge") ∈ gw := gwT (tb1 (List.mem_of_getElem? (i := 149) rfl)) rfl
theorem wn_150 : (Jvm.Cond.methodLinkNest "SinLenses$Clerk" (27 : Nat) ({ cls := "SinLenses$Judge", name := "<init>", desc := "()V" } : Jvm.MethodName) "SinLenses") ∈ tables_1 := tb1 (List.mem_of_getElem? (i := 150) rfl)
theorem wd_151 : (Jvm.Cond.classLink "SinLenses$Clerk" (32 : Nat) "SinLenses$Deeds") ∈ gw := gwT (tb1 (List.mem_of_getElem? (i := 151) rfl)) rfl
theorem wn_152 : (Jvm.Cond.methodLinkNest "SinLenses$Clerk" (34 : Nat) ({ cls := "SinLenses$Deeds", name := "<init>", desc := "()V" } : Jvm.MethodName) "SinLenses") ∈ tables_1 := tb1 (List.mem_of_getElem? (i := 152) rfl)
theorem wd_153 : (Jvm.Cond.classLink "SinLenses$Clerk" (39 : Nat) "SinLenses$Sums") ∈ gw := gwT (tb1 (List.mem_of_getElem? (i := 153) rfl)) rfl
theorem wn_154 : (Jvm.Cond.methodLinkNest "SinLenses$Clerk" (41 : Nat) ({ cls := "SinLenses$Sums", name := "<init>", desc := "()V" } : Jvm.MethodName) "SinLenses") ∈ tables_1 := tb1 (List.mem_of_getElem? (i := 154) rfl)
theorem wd_155 : (Jvm.Cond.fieldLink "SinLenses$Clerk" (12 : Nat) "SinLenses$Clerk" "ahead" "LSinLenses$Parish;") ∈ gw := gwT (tb1 (List.mem_of_getElem? (i := 155) rfl)) rfl
theorem wd_156 : (Jvm.Cond.fieldLink "SinLenses$Clerk" (21 : Nat) "SinLenses$Clerk" "trailAhead" "LSinLenses$Trail;") ∈ gw := gwT (tb1 (List.mem_of_getElem? (i := 156) rfl)) rfl
theorem wd_157 : (Jvm.Cond.fieldLink "SinLenses$Clerk" (28 : Nat) "SinLenses$Clerk" "judge" "LSinLenses$Judge;") ∈ gw := gwT (tb1 (List.mem_of_getElem? (i := 157) rfl)) rfl
theorem wd_158 : (Jvm.Cond.fieldLink "SinLenses$Clerk" (35 : Nat) "SinLenses$Clerk" "deeds" "LSinLenses$Deeds;") ∈ gw := gwT (tb1 (List.mem_of_getElem? (i := 158) rfl)) rfl
theorem wd_159 : (Jvm.Cond.fieldLink "SinLenses$Clerk" (42 : Nat) "SinLenses$Clerk" "sums" "LSinLenses$Sums;") ∈ gw := gwT (tb1 (List.mem_of_getElem? (i := 159) rfl)) rfl
theorem wd_160 : (Jvm.Cond.fieldLink "SinLenses$Clerk" (46 : Nat) "SinLenses$Clerk" "words" "[I") ∈ gw := gwT (tb1 (List.mem_of_getElem? (i := 160) rfl)) rfl
theorem wd_161 : (Jvm.Cond.fieldLink "SinLenses$Clerk" (57 : Nat) "SinLenses$Clerk" "done" "I") ∈ gw := gwT (tb1 (List.mem_of_getElem? (i := 161) rfl)) rfl
theorem wn_162 : (Jvm.Cond.fieldLinkNest "SinLenses" (227 : Nat) "SinLenses$Clerk" "done" "I" "SinLenses") ∈ tables_1 := tb1 (List.mem_of_getElem? (i := 162) rfl)
theorem wd_163 : (Jvm.Cond.fieldLink "SinLenses$Clerk" (61 : Nat) "SinLenses$Clerk" "latest" "I") ∈ gw := gwT (tb1 (List.mem_of_getElem? (i := 163) rfl)) rfl
theorem wd_164 : (Jvm.Cond.laysFinal "SinLenses$Clerk" "SinLenses$Clerk" "ahead" "LSinLenses$Parish;") ∈ gw := gwT (tb1 (List.mem_of_getElem? (i := 164) rfl)) rfl
theorem wd_166 : (Jvm.Cond.laysFinal "SinLenses$Clerk" "SinLenses$Clerk" "trailAhead" "LSinLenses$Trail;") ∈ gw := gwT (tb1 (List.mem_of_getElem? (i := 166) rfl)) rfl
theorem wd_168 : (Jvm.Cond.laysFinal "SinLenses$Clerk" "SinLenses$Clerk" "judge" "LSinLenses$Judge;") ∈ gw := gwT (tb1 (List.mem_of_getElem? (i := 168) rfl)) rfl
theorem wd_170 : (Jvm.Cond.laysFinal "SinLenses$Clerk" "SinLenses$Clerk" "deeds" "LSinLenses$Deeds;") ∈ gw := gwT (tb1 (List.mem_of_getElem? (i := 170) rfl)) rfl
theorem wd_172 : (Jvm.Cond.laysFinal "SinLenses$Clerk" "SinLenses$Clerk" "sums" "LSinLenses$Sums;") ∈ gw := gwT (tb1 (List.mem_of_getElem? (i := 172) rfl)) rfl
theorem wd_174 : (Jvm.Cond.laysFinal "SinLenses$Clerk" "SinLenses$Clerk" "words" "[I") ∈ gw := gwT (tb1 (List.mem_of_getElem? (i := 174) rfl)) rfl
theorem wd_176 : (Jvm.Cond.lays "SinLenses$Clerk" "SinLenses$Clerk" "done" "I") ∈ gw := gwT (tb1 (List.mem_of_getElem? (i := 176) rfl)) rfl
theorem wd_178 : (Jvm.Cond.lays "SinLenses$Clerk" "SinLenses$Clerk" "latest" "I") ∈ gw := gwT (tb1 (List.mem_of_getElem? (i := 178) rfl)) rfl
theorem wd_181 : (Jvm.Cond.classLink "SinLenses" (53 : Nat) "SinLenses$Paper") ∈ gw := gwT (tb1 (List.mem_of_getElem? (i := 181) rfl)) rfl
theorem wd_182 : (Jvm.Cond.instantiable "SinLenses$Paper" (12 : Nat)) ∈ gw := gwT (tb1 (List.mem_of_getElem? (i := 182) rfl)) rfl
theorem wn_183 : (Jvm.Cond.methodLinkNest "SinLenses" (55 : Nat) ({ cls := "SinLenses$Paper", name := "<init>", desc := "()V" } : Jvm.MethodName) "SinLenses") ∈ tables_1 := tb1 (List.mem_of_getElem? (i := 183) rfl)
theorem wd_184 : (Jvm.Cond.instanceMethod ({ cls := "SinLenses$Paper", name := "<init>", desc := "()V" } : Jvm.MethodName)) ∈ gw := gwT (tb1 (List.mem_of_getElem? (i := 184) rfl)) rfl
theorem wd_185 : (Jvm.Cond.code ({ cls := "SinLenses$Paper", name := "<init>", desc := "()V" } : Jvm.MethodName) prog_6_method_1_code (1 : Nat) (Option.none : Option Jvm.ClassFile.FieldType)) ∈ gw := gwT (tb1 (List.mem_of_getElem? (i := 185) rfl)) rfl
theorem wd_186 : (Jvm.Cond.methodLink "SinLenses$Paper" (3 : Nat) ({ cls := "java/lang/Object", name := "<init>", desc := "()V" } : Jvm.MethodName)) ∈ gw := gwT (tb1 (List.mem_of_getElem? (i := 186) rfl)) rfl
theorem wd_187 : (Jvm.Cond.classLink "SinLenses$Paper" (9 : Nat) "SinLenses$Judge") ∈ gw := gwT (tb1 (List.mem_of_getElem? (i := 187) rfl)) rfl
theorem wn_188 : (Jvm.Cond.methodLinkNest "SinLenses$Paper" (11 : Nat) ({ cls := "SinLenses$Judge", name := "<init>", desc := "()V" } : Jvm.MethodName) "SinLenses") ∈ tables_1 := tb1 (List.mem_of_getElem? (i := 188) rfl)
theorem wd_189 : (Jvm.Cond.classLink "SinLenses$Paper" (43 : Nat) "[[I") ∈ gw := gwT (tb1 (List.mem_of_getElem? (i := 189) rfl)) rfl
theorem wn_190 : (Jvm.Cond.arrayOver (Jvm.ClassFile.FieldType.array Jvm.ClassFile.FieldType.int)) ∈ tables_1 := tb1 (List.mem_of_getElem? (i := 190) rfl)
theorem wd_191 : (Jvm.Cond.fieldLink "SinLenses$Paper" (12 : Nat) "SinLenses$Paper" "judge" "LSinLenses$Judge;") ∈ gw := gwT (tb1 (List.mem_of_getElem? (i := 191) rfl)) rfl
theorem wd_192 : (Jvm.Cond.fieldLink "SinLenses$Paper" (18 : Nat) "SinLenses$Paper" "queue" "[I") ∈ gw := gwT (tb1 (List.mem_of_getElem? (i := 192) rfl)) rfl
theorem wd_193 : (Jvm.Cond.fieldLink "SinLenses$Paper" (22 : Nat) "SinLenses$Paper" "cameOf" "[I") ∈ gw := gwT (tb1 (List.mem_of_getElem? (i := 193) rfl)) rfl
theorem wd_194 : (Jvm.Cond.fieldLink "SinLenses$Paper" (25 : Nat) "SinLenses$Paper" "cameBy" "[I") ∈ gw := gwT (tb1 (List.mem_of_getElem? (i := 194) rfl)) rfl
theorem wd_195 : (Jvm.Cond.fieldLink "SinLenses$Paper" (28 : Nat) "SinLenses$Paper" "farOff" "[I") ∈ gw := gwT (tb1 (List.mem_of_getElem? (i := 195) rfl)) rfl
theorem wd_196 : (Jvm.Cond.fieldLink "SinLenses$Paper" (31 : Nat) "SinLenses$Paper" "possible" "[I") ∈ gw := gwT (tb1 (List.mem_of_getElem? (i := 196) rfl)) rfl
theorem wd_197 : (Jvm.Cond.fieldLink "SinLenses$Paper" (34 : Nat) "SinLenses$Paper" "tally" "[I") ∈ gw := gwT (tb1 (List.mem_of_getElem? (i := 197) rfl)) rfl
theorem wd_198 : (Jvm.Cond.fieldLink "SinLenses$Paper" (37 : Nat) "SinLenses$Paper" "fits" "[I") ∈ gw := gwT (tb1 (List.mem_of_getElem? (i := 198) rfl)) rfl
theorem wd_199 : (Jvm.Cond.fieldLink "SinLenses$Paper" (40 : Nat) "SinLenses$Paper" "bestBehind" "[I") ∈ gw := gwT (tb1 (List.mem_of_getElem? (i := 199) rfl)) rfl
theorem wd_200 : (Jvm.Cond.fieldLink "SinLenses$Paper" (45 : Nat) "SinLenses$Paper" "idleRows" "[[I") ∈ gw := gwT (tb1 (List.mem_of_getElem? (i := 200) rfl)) rfl
theorem wd_201 : (Jvm.Cond.fieldLink "SinLenses$Paper" (48 : Nat) "SinLenses$Paper" "idleCounts" "[I") ∈ gw := gwT (tb1 (List.mem_of_getElem? (i := 201) rfl)) rfl
theorem wd_202 : (Jvm.Cond.fieldLink "SinLenses$Paper" (51 : Nat) "SinLenses$Paper" "shares" "[J") ∈ gw := gwT (tb1 (List.mem_of_getElem? (i := 202) rfl)) rfl
theorem wd_203 : (Jvm.Cond.laysFinal "SinLenses$Paper" "SinLenses$Paper" "judge" "LSinLenses$Judge;") ∈ gw := gwT (tb1 (List.mem_of_getElem? (i := 203) rfl)) rfl
theorem wd_205 : (Jvm.Cond.laysFinal "SinLenses$Paper" "SinLenses$Paper" "queue" "[I") ∈ gw := gwT (tb1 (List.mem_of_getElem? (i := 205) rfl)) rfl
theorem wd_207 : (Jvm.Cond.laysFinal "SinLenses$Paper" "SinLenses$Paper" "cameOf" "[I") ∈ gw := gwT (tb1 (List.mem_of_getElem? (i := 207) rfl)) rfl
theorem wd_209 : (Jvm.Cond.laysFinal "SinLenses$Paper" "SinLenses$Paper" "cameBy" "[I") ∈ gw := gwT (tb1 (List.mem_of_getElem? (i := 209) rfl)) rfl
theorem wd_211 : (Jvm.Cond.laysFinal "SinLenses$Paper" "SinLenses$Paper" "farOff" "[I") ∈ gw := gwT (tb1 (List.mem_of_getElem? (i := 211) rfl)) rfl
theorem wd_213 : (Jvm.Cond.laysFinal "SinLenses$Paper" "SinLenses$Paper" "possible" "[I") ∈ gw := gwT (tb1 (List.mem_of_getElem? (i := 213) rfl)) rfl
theorem wd_215 : (Jvm.Cond.laysFinal "SinLenses$Paper" "SinLenses$Paper" "tally" "[I") ∈ gw := gwT (tb1 (List.mem_of_getElem? (i := 215) rfl)) rfl
theorem wd_217 : (Jvm.Cond.laysFinal "SinLenses$Paper" "SinLenses$Paper" "fits" "[I") ∈ gw := gwT (tb1 (List.mem_of_getElem? (i := 217) rfl)) rfl
theorem wd_219 : (Jvm.Cond.laysFinal "SinLenses$Paper" "SinLenses$Paper" "bestBehind" "[I") ∈ gw := gwT (tb1 (List.mem_of_getElem? (i := 219) rfl)) rfl
theorem wd_221 : (Jvm.Cond.laysFinal "SinLenses$Paper" "SinLenses$Paper" "idleRows" "[[I") ∈ gw := gwT (tb1 (List.mem_of_getElem? (i := 221) rfl)) rfl
theorem wd_223 : (Jvm.Cond.laysFinal "SinLenses$Paper" "SinLenses$Paper" "idleCounts" "[I") ∈ gw := gwT (tb1 (List.mem_of_getElem? (i := 223) rfl)) rfl
theorem wd_225 : (Jvm.Cond.laysFinal "SinLenses$Paper" "SinLenses$Paper" "shares" "[J") ∈ gw := gwT (tb1 (List.mem_of_getElem? (i := 225) rfl)) rfl
theorem wd_228 : (Jvm.Cond.classLink "SinLenses" (60 : Nat) "SinLenses$Reader") ∈ gw := gwT (tb1 (List.mem_of_getElem? (i := 228) rfl)) rfl
theorem wd_229 : (Jvm.Cond.instantiable "SinLenses$Reader" (11 : Nat)) ∈ gw := gwT (tb1 (List.mem_of_getElem? (i := 229) rfl)) rfl
theorem wn_230 : (Jvm.Cond.methodLinkNest "SinLenses" (62 : Nat) ({ cls := "SinLenses$Reader", name := "<init>", desc := "()V" } : Jvm.MethodName) "SinLenses") ∈ tables_1 := tb1 (List.mem_of_getElem? (i := 230) rfl)
theorem wd_231 : (Jvm.Cond.instanceMethod ({ cls := "SinLenses$Reader", name := "<init>", desc := "()V" } : Jvm.MethodName)) ∈ gw := gwT (tb1 (List.mem_of_getElem? (i := 231) rfl)) rfl
theorem wd_232 : (Jvm.Cond.code ({ cls := "SinLenses$Reader", name := "<init>", desc := "()V" } : Jvm.MethodName) prog_8_method_1_code (1 : Nat) (Option.none : Option Jvm.ClassFile.FieldType)) ∈ gw := gwT (tb1 (List.mem_of_getElem? (i := 232) rfl)) rfl
theorem wd_233 : (Jvm.Cond.methodLink "SinLenses$Reader" (3 : Nat) ({ cls := "java/lang/Object", name := "<init>", desc := "()V" } : Jvm.MethodName)) ∈ gw := gwT (tb1 (List.mem_of_getElem? (i := 233) rfl)) rfl
theorem wd_234 : (Jvm.Cond.classLink "SinLenses$Reader" (28 : Nat) "SinLenses$Text") ∈ gw := gwT (tb1 (List.mem_of_getElem? (i := 234) rfl)) rfl
theorem wd_235 : (Jvm.Cond.instantiable "SinLenses$Text" (7 : Nat)) ∈ gw := gwT (tb1 (List.mem_of_getElem? (i := 235) rfl)) rfl
theorem wn_236 : (Jvm.Cond.methodLinkNest "SinLenses$Reader" (30 : Nat) ({ cls := "SinLenses$Text", name := "<init>", desc := "(II)V" } : Jvm.MethodName) "SinLenses") ∈ tables_1 := tb1 (List.mem_of_getElem? (i := 236) rfl)
theorem wd_237 : (Jvm.Cond.instanceMethod ({ cls := "SinLenses$Text", name := "<init>", desc := "(II)V" } : Jvm.MethodName)) ∈ gw := gwT (tb1 (List.mem_of_getElem? (i := 237) rfl)) rfl
theorem wd_238 : (Jvm.Cond.code ({ cls := "SinLenses$Text", name := "<init>", desc := "(II)V" } : Jvm.MethodName) prog_10_method_1_code (4 : Nat) (Option.none : Option Jvm.ClassFile.FieldType)) ∈ gw := gwT (tb1 (List.mem_of_getElem? (i := 238) rfl)) rfl
theorem wd_239 : (Jvm.Cond.methodLink "SinLenses$Text" (3 : Nat) ({ cls := "java/lang/Object", name := "<init>", desc := "()V" } : Jvm.MethodName)) ∈ gw := gwT (tb1 (List.mem_of_getElem? (i := 239) rfl)) rfl
theorem wn_240 : (Jvm.Cond.methodLinkNest "SinLenses$Text" (9 : Nat) ({ cls := "SinLenses", name := "nearest", desc := "(III)I" } : Jvm.MethodName) "SinLenses") ∈ tables_1 := tb2 (List.mem_of_getElem? (i := 0) rfl)
theorem wd_241 : (Jvm.Cond.static ({ cls := "SinLenses", name := "nearest", desc := "(III)I" } : Jvm.MethodName)) ∈ gw := gwT (tb2 (List.mem_of_getElem? (i := 1) rfl)) rfl
theorem wd_242 : (Jvm.Cond.code ({ cls := "SinLenses", name := "nearest", desc := "(III)I" } : Jvm.MethodName) prog_1_method_50_code (3 : Nat) (Option.some Jvm.ClassFile.FieldType.int)) ∈ gw := gwT (tb2 (List.mem_of_getElem? (i := 2) rfl)) rfl
theorem wd_243 : (Jvm.Cond.methodLink "SinLenses" (314 : Nat) ({ cls := "java/lang/Math", name := "min", desc := "(II)I" } : Jvm.MethodName)) ∈ gw := gwT (tb2 (List.mem_of_getElem? (i := 3) rfl)) rfl
theorem wd_244 : (Jvm.Cond.static ({ cls := "java/lang/Math", name := "min", desc := "(II)I" } : Jvm.MethodName)) ∈ gw := gwT (tb2 (List.mem_of_getElem? (i := 4) rfl)) rfl
theorem wd_245 : (Jvm.Cond.code ({ cls := "java/lang/Math", name := "min", desc := "(II)I" } : Jvm.MethodName) prog_15_method_69_code (2 : Nat) (Option.some Jvm.ClassFile.FieldType.int)) ∈ gw := gwT (tb2 (List.mem_of_getElem? (i := 5) rfl)) rfl
theorem wd_246 : (Jvm.Cond.methodLink "SinLenses" (319 : Nat) ({ cls := "java/lang/Math", name := "max", desc := "(II)I" } : Jvm.MethodName)) ∈ gw := gwT (tb2 (List.mem_of_getElem? (i := 6) rfl)) rfl
theorem wd_247 : (Jvm.Cond.static ({ cls := "java/lang/Math", name := "max", desc := "(II)I" } : Jvm.MethodName)) ∈ gw := gwT (tb2 (List.mem_of_getElem? (i := 7) rfl)) rfl
theorem wd_248 : (Jvm.Cond.code ({ cls := "java/lang/Math", name := "max", desc := "(II)I" } : Jvm.MethodName) prog_15_method_65_code (2 : Nat) (Option.some Jvm.ClassFile.FieldType.int)) ∈ gw := gwT (tb2 (List.mem_of_getElem? (i := 8) rfl)) rfl
theorem wd_249 : (Jvm.Cond.fieldLink "SinLenses$Text" (13 : Nat) "SinLenses$Text" "verbs" "[I") ∈ gw := gwT (tb2 (List.mem_of_getElem? (i := 9) rfl)) rfl
theorem wd_250 : (Jvm.Cond.fieldLink "SinLenses$Text" (19 : Nat) "SinLenses$Text" "repeats" "[I") ∈ gw := gwT (tb2 (List.mem_of_getElem? (i := 10) rfl)) rfl
theorem wd_251 : (Jvm.Cond.fieldLink "SinLenses$Text" (22 : Nat) "SinLenses$Text" "uses" "[I") ∈ gw := gwT (tb2 (List.mem_of_getElem? (i := 11) rfl)) rfl
theorem wd_252 : (Jvm.Cond.fieldLink "SinLenses$Text" (25 : Nat) "SinLenses$Text" "marks" "[I") ∈ gw := gwT (tb2 (List.mem_of_getElem? (i := 12) rfl)) rfl
theorem wd_253 : (Jvm.Cond.fieldLink "SinLenses$Text" (28 : Nat) "SinLenses$Text" "code" "[I") ∈ gw := gwT (tb2 (List.mem_of_getElem? (i := 13) rfl)) rfl
theorem wn_254 : (Jvm.Cond.fieldLinkNest "SinLenses$Sums" (15 : Nat) "SinLenses$Text" "code" "[I" "SinLenses") ∈ tables_1 := tb2 (List.mem_of_getElem? (i := 14) rfl)
theorem wd_255 : (Jvm.Cond.fieldLink "SinLenses$Text" (31 : Nat) "SinLenses$Text" "clauses" "I") ∈ gw := gwT (tb2 (List.mem_of_getElem? (i := 15) rfl)) rfl
theorem wn_256 : (Jvm.Cond.fieldLinkNest "SinLenses$Judge" (70 : Nat) "SinLenses$Text" "clauses" "I" "SinLenses") ∈ tables_1 := tb2 (List.mem_of_getElem? (i := 16) rfl)
theorem wn_257 : (Jvm.Cond.fieldLinkNest "SinLenses" (214 : Nat) "SinLenses$Text" "clauses" "I" "SinLenses") ∈ tables_1 := tb2 (List.mem_of_getElem? (i := 17) rfl)
theorem wd_258 : (Jvm.Cond.fieldLink "SinLenses$Text" (35 : Nat) "SinLenses$Text" "size" "I") ∈ gw := gwT (tb2 (List.mem_of_getElem? (i := 18) rfl)) rfl
theorem wd_259 : (Jvm.Cond.laysFinal "SinLenses$Text" "SinLenses$Text" "verbs" "[I") ∈ gw := gwT (tb2 (List.mem_of_getElem? (i := 19) rfl)) rfl
theorem wd_261 : (Jvm.Cond.laysFinal "SinLenses$Text" "SinLenses$Text" "repeats" "[I") ∈ gw := gwT (tb2 (List.mem_of_getElem? (i := 21) rfl)) rfl
theorem wd_263 : (Jvm.Cond.laysFinal "SinLenses$Text" "SinLenses$Text" "uses" "[I") ∈ gw := gwT (tb2 (List.mem_of_getElem? (i := 23) rfl)) rfl
theorem wd_265 : (Jvm.Cond.laysFinal "SinLenses$Text" "SinLenses$Text" "marks" "[I") ∈ gw := gwT (tb2 (List.mem_of_getElem? (i := 25) rfl)) rfl
theorem wd_267 : (Jvm.Cond.laysFinal "SinLenses$Text" "SinLenses$Text" "code" "[I") ∈ gw := gwT (tb2 (List.mem_of_getElem? (i := 27) rfl)) rfl
theorem wd_269 : (Jvm.Cond.lays "SinLenses$Text" "SinLenses$Text" "clauses" "I") ∈ gw := gwT (tb2 (List.mem_of_getElem? (i := 29) rfl)) rfl
theorem wd_271 : (Jvm.Cond.lays "SinLenses$Text" "SinLenses$Text" "size" "I") ∈ gw := gwT (tb2 (List.mem_of_getElem? (i := 31) rfl)) rfl
theorem wd_274 : (Jvm.Cond.fieldLink "SinLenses$Reader" (9 : Nat) "SinLenses$Reader" "tape" "[I") ∈ gw := gwT (tb2 (List.mem_of_getElem? (i := 34) rfl)) rfl
theorem wd_275 : (Jvm.Cond.fieldLink "SinLenses$Reader" (37 : Nat) "SinLenses$Reader" "length" "I") ∈ gw := gwT (tb2 (List.mem_of_getElem? (i := 35) rfl)) rfl
theorem wn_276 : (Jvm.Cond.fieldLinkNest "SinLenses" (171 : Nat) "SinLenses$Reader" "length" "I" "SinLenses") ∈ tables_1 := tb2 (List.mem_of_getElem? (i := 36) rfl)
theorem wd_277 : (Jvm.Cond.fieldLink "SinLenses$Reader" (15 : Nat) "SinLenses$Reader" "tokens" "[I") ∈ gw := gwT (tb2 (List.mem_of_getElem? (i := 37) rfl)) rfl
theorem wd_278 : (Jvm.Cond.fieldLink "SinLenses$Reader" (18 : Nat) "SinLenses$Reader" "starts" "[I") ∈ gw := gwT (tb2 (List.mem_of_getElem? (i := 38) rfl)) rfl
theorem wd_279 : (Jvm.Cond.fieldLink "SinLenses$Reader" (21 : Nat) "SinLenses$Reader" "values" "[I") ∈ gw := gwT (tb2 (List.mem_of_getElem? (i := 39) rfl)) rfl
theorem wd_280 : (Jvm.Cond.fieldLink "SinLenses$Reader" (70 : Nat) "SinLenses$Reader" "tokenCount" "I") ∈ gw := gwT (tb2 (List.mem_of_getElem? (i := 40) rfl)) rfl
theorem wd_281 : (Jvm.Cond.fieldLink "SinLenses$Reader" (51 : Nat) "SinLenses$Reader" "at" "I") ∈ gw := gwT (tb2 (List.mem_of_getElem? (i := 41) rfl)) rfl
theorem wd_282 : (Jvm.Cond.fieldLink "SinLenses$Reader" (48 : Nat) "SinLenses$Reader" "parts" "I") ∈ gw := gwT (tb2 (List.mem_of_getElem? (i := 42) rfl)) rfl
theorem wd_283 : (Jvm.Cond.fieldLink "SinLenses$Reader" (44 : Nat) "SinLenses$Reader" "ofLaw" "Z") ∈ gw := gwT (tb2 (List.mem_of_getElem? (i := 43) rfl)) rfl
theorem wd_284 : (Jvm.Cond.fieldLink "SinLenses$Reader" (24 : Nat) "SinLenses$Reader" "faultAt" "I") ∈ gw := gwT (tb2 (List.mem_of_getElem? (i := 44) rfl)) rfl
theorem wn_285 : (Jvm.Cond.fieldLinkNest "SinLenses" (230 : Nat) "SinLenses$Reader" "faultAt" "I" "SinLenses") ∈ tables_1 := tb2 (List.mem_of_getElem? (i := 45) rfl)
theorem wd_286 : (Jvm.Cond.fieldLink "SinLenses$Reader" (33 : Nat) "SinLenses$Reader" "text" "LSinLenses$Text;") ∈ gw := gwT (tb2 (List.mem_of_getElem? (i := 46) rfl)) rfl
theorem wn_287 : (Jvm.Cond.fieldLinkNest "SinLenses" (197 : Nat) "SinLenses$Reader" "text" "LSinLenses$Text;" "SinLenses") ∈ tables_1 := tb2 (List.mem_of_getElem? (i := 47) rfl)
theorem wd_288 : (Jvm.Cond.laysFinal "SinLenses$Reader" "SinLenses$Reader" "tape" "[I") ∈ gw := gwT (tb2 (List.mem_of_getElem? (i := 48) rfl)) rfl
theorem wd_290 : (Jvm.Cond.lays "SinLenses$Reader" "SinLenses$Reader" "length" "I") ∈ gw := gwT (tb2 (List.mem_of_getElem? (i := 50) rfl)) rfl
theorem wd_292 : (Jvm.Cond.laysFinal "SinLenses$Reader" "SinLenses$Reader" "tokens" "[I") ∈ gw := gwT (tb2 (List.mem_of_getElem? (i := 52) rfl)) rfl
theorem wd_294 : (Jvm.Cond.laysFinal "SinLenses$Reader" "SinLenses$Reader" "starts" "[I") ∈ gw := gwT (tb2 (List.mem_of_getElem? (i := 54) rfl)) rfl
theorem wd_296 : (Jvm.Cond.laysFinal "SinLenses$Reader" "SinLenses$Reader" "values" "[I") ∈ gw := gwT (tb2 (List.mem_of_getElem? (i := 56) rfl)) rfl
theorem wd_298 : (Jvm.Cond.lays "SinLenses$Reader" "SinLenses$Reader" "tokenCount" "I") ∈ gw := gwT (tb2 (List.mem_of_getElem? (i := 58) rfl)) rfl
theorem wd_300 : (Jvm.Cond.lays "SinLenses$Reader" "SinLenses$Reader" "at" "I") ∈ gw := gwT (tb2 (List.mem_of_getElem? (i := 60) rfl)) rfl
theorem wd_302 : (Jvm.Cond.lays "SinLenses$Reader" "SinLenses$Reader" "parts" "I") ∈ gw := gwT (tb2 (List.mem_of_getElem? (i := 62) rfl)) rfl
theorem wd_304 : (Jvm.Cond.lays "SinLenses$Reader" "SinLenses$Reader" "ofLaw" "Z") ∈ gw := gwT (tb2 (List.mem_of_getElem? (i := 64) rfl)) rfl
theorem wd_306 : (Jvm.Cond.lays "SinLenses$Reader" "SinLenses$Reader" "faultAt" "I") ∈ gw := gwT (tb2 (List.mem_of_getElem? (i := 66) rfl)) rfl
theorem wd_308 : (Jvm.Cond.laysFinal "SinLenses$Reader" "SinLenses$Reader" "text" "LSinLenses$Text;") ∈ gw := gwT (tb2 (List.mem_of_getElem? (i := 68) rfl)) rfl
theorem wd_311 : (Jvm.Cond.fieldLink "SinLenses" (14 : Nat) "SinLenses" "now" "LSinLenses$Parish;") ∈ gw := gwT (tb2 (List.mem_of_getElem? (i := 71) rfl)) rfl
theorem wd_312 : (Jvm.Cond.fieldLink "SinLenses" (18 : Nat) "SinLenses" "behindMonths" "LSinLenses$Parish;") ∈ gw := gwT (tb2 (List.mem_of_getElem? (i := 72) rfl)) rfl
theorem wd_313 : (Jvm.Cond.fieldLink "SinLenses" (21 : Nat) "SinLenses" "images" "[LSinLenses$Parish;") ∈ gw := gwT (tb2 (List.mem_of_getElem? (i := 73) rfl)) rfl
theorem wd_314 : (Jvm.Cond.fieldLink "SinLenses" (28 : Nat) "SinLenses" "trail" "LSinLenses$Trail;") ∈ gw := gwT (tb2 (List.mem_of_getElem? (i := 74) rfl)) rfl
theorem wd_315 : (Jvm.Cond.fieldLink "SinLenses" (35 : Nat) "SinLenses" "judge" "LSinLenses$Judge;") ∈ gw := gwT (tb2 (List.mem_of_getElem? (i := 75) rfl)) rfl
theorem wd_316 : (Jvm.Cond.fieldLink "SinLenses" (42 : Nat) "SinLenses" "deeds" "LSinLenses$Deeds;") ∈ gw := gwT (tb2 (List.mem_of_getElem? (i := 76) rfl)) rfl
theorem wd_317 : (Jvm.Cond.fieldLink "SinLenses" (49 : Nat) "SinLenses" "clerk" "LSinLenses$Clerk;") ∈ gw := gwT (tb2 (List.mem_of_getElem? (i := 77) rfl)) rfl
theorem wd_318 : (Jvm.Cond.fieldLink "SinLenses" (56 : Nat) "SinLenses" "paper" "LSinLenses$Paper;") ∈ gw := gwT (tb2 (List.mem_of_getElem? (i := 78) rfl)) rfl
theorem wd_319 : (Jvm.Cond.fieldLink "SinLenses" (63 : Nat) "SinLenses" "reader" "LSinLenses$Reader;") ∈ gw := gwT (tb2 (List.mem_of_getElem? (i := 79) rfl)) rfl
theorem wd_320 : (Jvm.Cond.fieldLink "SinLenses" (67 : Nat) "SinLenses" "refusals" "[I") ∈ gw := gwT (tb2 (List.mem_of_getElem? (i := 80) rfl)) rfl
theorem wd_321 : (Jvm.Cond.fieldLink "SinLenses" (311 : Nat) "SinLenses" "latestStatus" "I") ∈ gw := gwT (tb2 (List.mem_of_getElem? (i := 81) rfl)) rfl
theorem wd_322 : (Jvm.Cond.fieldLink "SinLenses" (180 : Nat) "SinLenses" "latestSmears" "I") ∈ gw := gwT (tb2 (List.mem_of_getElem? (i := 82) rfl)) rfl
theorem wd_323 : (Jvm.Cond.fieldLink "SinLenses" (71 : Nat) "SinLenses" "latestStopped" "I") ∈ gw := gwT (tb2 (List.mem_of_getElem? (i := 83) rfl)) rfl
theorem wd_324 : (Jvm.Cond.laysFinal "SinLenses" "SinLenses" "now" "LSinLenses$Parish;") ∈ gw := gwT (tb2 (List.mem_of_getElem? (i := 84) rfl)) rfl
theorem wd_326 : (Jvm.Cond.laysFinal "SinLenses" "SinLenses" "behindMonths" "LSinLenses$Parish;") ∈ gw := gwT (tb2 (List.mem_of_getElem? (i := 86) rfl)) rfl
theorem wd_328 : (Jvm.Cond.laysFinal "SinLenses" "SinLenses" "images" "[LSinLenses$Parish;") ∈ gw := gwT (tb2 (List.mem_of_getElem? (i := 88) rfl)) rfl
theorem wd_330 : (Jvm.Cond.laysFinal "SinLenses" "SinLenses" "trail" "LSinLenses$Trail;") ∈ gw := gwT (tb2 (List.mem_of_getElem? (i := 90) rfl)) rfl
theorem wd_332 : (Jvm.Cond.laysFinal "SinLenses" "SinLenses" "judge" "LSinLenses$Judge;") ∈ gw := gwT (tb2 (List.mem_of_getElem? (i := 92) rfl)) rfl
theorem wd_334 : (Jvm.Cond.laysFinal "SinLenses" "SinLenses" "deeds" "LSinLenses$Deeds;") ∈ gw := gwT (tb2 (List.mem_of_getElem? (i := 94) rfl)) rfl
theorem wd_336 : (Jvm.Cond.laysFinal "SinLenses" "SinLenses" "clerk" "LSinLenses$Clerk;") ∈ gw := gwT (tb2 (List.mem_of_getElem? (i := 96) rfl)) rfl
theorem wd_338 : (Jvm.Cond.laysFinal "SinLenses" "SinLenses" "paper" "LSinLenses$Paper;") ∈ gw := gwT (tb2 (List.mem_of_getElem? (i := 98) rfl)) rfl
theorem wd_340 : (Jvm.Cond.laysFinal "SinLenses" "SinLenses" "reader" "LSinLenses$Reader;") ∈ gw := gwT (tb2 (List.mem_of_getElem? (i := 100) rfl)) rfl
theorem wd_342 : (Jvm.Cond.laysFinal "SinLenses" "SinLenses" "refusals" "[I") ∈ gw := gwT (tb2 (List.mem_of_getElem? (i := 102) rfl)) rfl
theorem wd_344 : (Jvm.Cond.lays "SinLenses" "SinLenses" "latestStatus" "I") ∈ gw := gwT (tb2 (List.mem_of_getElem? (i := 104) rfl)) rfl
theorem wd_346 : (Jvm.Cond.lays "SinLenses" "SinLenses" "latestSmears" "I") ∈ gw := gwT (tb2 (List.mem_of_getElem? (i := 106) rfl)) rfl
theorem wd_348 : (Jvm.Cond.lays "SinLenses" "SinLenses" "latestStopped" "I") ∈ gw := gwT (tb2 (List.mem_of_getElem? (i := 108) rfl)) rfl
theorem wd_351 : (Jvm.Cond.methodLink "SinLensesLaw" (13 : Nat) ({ cls := "SinLenses", name := "person", desc := "()I" } : Jvm.MethodName)) ∈ gw := gwT (tb2 (List.mem_of_getElem? (i := 111) rfl)) rfl
theorem wd_352 : (Jvm.Cond.instanceMethod ({ cls := "SinLenses", name := "person", desc := "()I" } : Jvm.MethodName)) ∈ gw := gwT (tb2 (List.mem_of_getElem? (i := 112) rfl)) rfl
theorem wd_353 : (Jvm.Cond.selects "SinLenses" ({ cls := "SinLenses", name := "person", desc := "()I" } : Jvm.MethodName) ({ cls := "SinLenses", name := "person", desc := "()I" } : Jvm.MethodName)) ∈ gw := gwT (tb2 (List.mem_of_getElem? (i := 113) rfl)) rfl
theorem wd_354 : (Jvm.Cond.code ({ cls := "SinLenses", name := "person", desc := "()I" } : Jvm.MethodName) prog_1_method_2_code (1 : Nat) (Option.some Jvm.ClassFile.FieldType.int)) ∈ gw := gwT (tb2 (List.mem_of_getElem? (i := 114) rfl)) rfl
theorem wd_355 : (Jvm.Cond.methodLink "SinLenses" (78 : Nat) ({ cls := "SinLenses", name := "refuse", desc := "(I)I" } : Jvm.MethodName)) ∈ gw := gwT (tb2 (List.mem_of_getElem? (i := 115) rfl)) rfl
theorem wd_357 : (Jvm.Cond.instanceMethod ({ cls := "SinLenses", name := "refuse", desc := "(I)I" } : Jvm.MethodName)) ∈ gw := gwT (tb2 (List.mem_of_getElem? (i := 117) rfl)) rfl
theorem wd_358 : (Jvm.Cond.code ({ cls := "SinLenses", name := "refuse", desc := "(I)I" } : Jvm.MethodName) prog_1_method_44_code (2 : Nat) (Option.some Jvm.ClassFile.FieldType.int)) ∈ gw := gwT (tb2 (List.mem_of_getElem? (i := 118) rfl)) rfl
theorem wn_359 : (Jvm.Cond.methodLinkNest "SinLenses" (82 : Nat) ({ cls := "SinLenses$Trail", name := "empty", desc := "()V" } : Jvm.MethodName) "SinLenses") ∈ tables_1 := tb2 (List.mem_of_getElem? (i := 119) rfl)
theorem wd_361 : (Jvm.Cond.instanceMethod ({ cls := "SinLenses$Trail", name := "empty", desc := "()V" } : Jvm.MethodName)) ∈ gw := gwT (tb2 (List.mem_of_getElem? (i := 121) rfl)) rfl
theorem wd_362 : (Jvm.Cond.code ({ cls := "SinLenses$Trail", name := "empty", desc := "()V" } : Jvm.MethodName) prog_11_method_2_code (1 : Nat) (Option.none : Option Jvm.ClassFile.FieldType)) ∈ gw := gwT (tb2 (List.mem_of_getElem? (i := 122) rfl)) rfl
theorem wn_363 : (Jvm.Cond.methodLinkNest "SinLenses" (85 : Nat) ({ cls := "SinLenses$Parish", name := "addPerson", desc := "()I" } : Jvm.MethodName) "SinLenses") ∈ tables_1 := tb2 (List.mem_of_getElem? (i := 123) rfl)
theorem wd_365 : (Jvm.Cond.instanceMethod ({ cls := "SinLenses$Parish", name := "addPerson", desc := "()I" } : Jvm.MethodName)) ∈ gw := gwT (tb2 (List.mem_of_getElem? (i := 125) rfl)) rfl
theorem wd_366 : (Jvm.Cond.code ({ cls := "SinLenses$Parish", name := "addPerson", desc := "()I" } : Jvm.MethodName) prog_7_method_4_code (3 : Nat) (Option.some Jvm.ClassFile.FieldType.int)) ∈ gw := gwT (tb2 (List.mem_of_getElem? (i := 126) rfl)) rfl
theorem wd_367 : (Jvm.Cond.methodLink "SinLenses$Parish" (55 : Nat) ({ cls := "SinLenses$Parish", name := "setSin", desc := "(III)V" } : Jvm.MethodName)) ∈ gw := gwT (tb2 (List.mem_of_getElem? (i := 127) rfl)) rfl
theorem wd_369 : (Jvm.Cond.instanceMethod ({ cls := "SinLenses$Parish", name := "setSin", desc := "(III)V" } : Jvm.MethodName)) ∈ gw := gwT (tb2 (List.mem_of_getElem? (i := 129) rfl)) rfl
theorem wd_370 : (Jvm.Cond.code ({ cls := "SinLenses$Parish", name := "setSin", desc := "(III)V" } : Jvm.MethodName) prog_7_method_6_code (4 : Nat) (Option.none : Option Jvm.ClassFile.FieldType)) ∈ gw := gwT (tb2 (List.mem_of_getElem? (i := 130) rfl)) rfl
theorem wd_371 : (Jvm.Cond.methodLink "SinLenses$Parish" (66 : Nat) ({ cls := "SinLenses$Parish", name := "has", desc := "(I)Z" } : Jvm.MethodName)) ∈ gw := gwT (tb2 (List.mem_of_getElem? (i := 131) rfl)) rfl
theorem wd_373 : (Jvm.Cond.instanceMethod ({ cls := "SinLenses$Parish", name := "has", desc := "(I)Z" } : Jvm.MethodName)) ∈ gw := gwT (tb2 (List.mem_of_getElem? (i := 133) rfl)) rfl
theorem wd_374 : (Jvm.Cond.code ({ cls := "SinLenses$Parish", name := "has", desc := "(I)Z" } : Jvm.MethodName) prog_7_method_3_code (2 : Nat) (Option.some Jvm.ClassFile.FieldType.boolean)) ∈ gw := gwT (tb2 (List.mem_of_getElem? (i := 134) rfl)) rfl
theorem wn_375 : (Jvm.Cond.methodLinkNest "SinLenses$Parish" (70 : Nat) ({ cls := "SinLenses", name := "isKind", desc := "(I)Z" } : Jvm.MethodName) "SinLenses") ∈ tables_1 := tb2 (List.mem_of_getElem? (i := 135) rfl)
theorem wd_376 : (Jvm.Cond.static ({ cls := "SinLenses", name := "isKind", desc := "(I)Z" } : Jvm.MethodName)) ∈ gw := gwT (tb2 (List.mem_of_getElem? (i := 136) rfl)) rfl
theorem wd_377 : (Jvm.Cond.code ({ cls := "SinLenses", name := "isKind", desc := "(I)Z" } : Jvm.MethodName) prog_1_method_47_code (1 : Nat) (Option.some Jvm.ClassFile.FieldType.boolean)) ∈ gw := gwT (tb2 (List.mem_of_getElem? (i := 137) rfl)) rfl
theorem wn_378 : (Jvm.Cond.methodLinkNest "SinLenses$Parish" (73 : Nat) ({ cls := "SinLenses", name := "nearest", desc := "(III)I" } : Jvm.MethodName) "SinLenses") ∈ tables_1 := tb2 (List.mem_of_getElem? (i := 138) rfl)
theorem wd_379 : (Jvm.Cond.methodLink "SinLenses$Parish" (59 : Nat) ({ cls := "SinLenses$Parish", name := "setGlass", desc := "(II)V" } : Jvm.MethodName)) ∈ gw := gwT (tb2 (List.mem_of_getElem? (i := 139) rfl)) rfl
theorem wd_381 : (Jvm.Cond.instanceMethod ({ cls := "SinLenses$Parish", name := "setGlass", desc := "(II)V" } : Jvm.MethodName)) ∈ gw := gwT (tb2 (List.mem_of_getElem? (i := 141) rfl)) rfl
theorem wd_382 : (Jvm.Cond.code ({ cls := "SinLenses$Parish", name := "setGlass", desc := "(II)V" } : Jvm.MethodName) prog_7_method_10_code (3 : Nat) (Option.none : Option Jvm.ClassFile.FieldType)) ∈ gw := gwT (tb2 (List.mem_of_getElem? (i := 142) rfl)) rfl
theorem wd_383 : (Jvm.Cond.methodLink "SinLenses$Parish" (63 : Nat) ({ cls := "SinLenses$Parish", name := "setWanted", desc := "(II)V" } : Jvm.MethodName)) ∈ gw := gwT (tb2 (List.mem_of_getElem? (i := 143) rfl)) rfl
theorem wd_385 : (Jvm.Cond.instanceMethod ({ cls := "SinLenses$Parish", name := "setWanted", desc := "(II)V" } : Jvm.MethodName)) ∈ gw := gwT (tb2 (List.mem_of_getElem? (i := 145) rfl)) rfl
theorem wd_386 : (Jvm.Cond.code ({ cls := "SinLenses$Parish", name := "setWanted", desc := "(II)V" } : Jvm.MethodName) prog_7_method_13_code (3 : Nat) (Option.none : Option Jvm.ClassFile.FieldType)) ∈ gw := gwT (tb2 (List.mem_of_getElem? (i := 146) rfl)) rfl
theorem wd_387 : (Jvm.Cond.methodLink "SinLenses" (89 : Nat) ({ cls := "SinLenses", name := "accept", desc := "(I)I" } : Jvm.MethodName)) ∈ gw := gwT (tb2 (List.mem_of_getElem? (i := 147) rfl)) rfl
theorem wd_389 : (Jvm.Cond.instanceMethod ({ cls := "SinLenses", name := "accept", desc := "(I)I" } : Jvm.MethodName)) ∈ gw := gwT (tb2 (List.mem_of_getElem? (i := 149) rfl)) rfl
theorem wd_390 : (Jvm.Cond.code ({ cls := "SinLenses", name := "accept", desc := "(I)I" } : Jvm.MethodName) prog_1_method_45_code (2 : Nat) (Option.some Jvm.ClassFile.FieldType.int)) ∈ gw := gwT (tb2 (List.mem_of_getElem? (i := 150) rfl)) rfl
theorem wd_391 : (Jvm.Cond.methodLink "SinLensesLaw" (18 : Nat) ({ cls := "SinLenses", name := "of", desc := "(II)I" } : Jvm.MethodName)) ∈ gw := gwT (tb2 (List.mem_of_getElem? (i := 151) rfl)) rfl
theorem wd_392 : (Jvm.Cond.instanceMethod ({ cls := "SinLenses", name := "of", desc := "(II)I" } : Jvm.MethodName)) ∈ gw := gwT (tb2 (List.mem_of_getElem? (i := 152) rfl)) rfl
theorem wd_393 : (Jvm.Cond.selects "SinLenses" ({ cls := "SinLenses", name := "of", desc := "(II)I" } : Jvm.MethodName) ({ cls := "SinLenses", name := "of", desc := "(II)I" } : Jvm.MethodName)) ∈ gw := gwT (tb2 (List.mem_of_getElem? (i := 153) rfl)) rfl
theorem wd_394 : (Jvm.Cond.code ({ cls := "SinLenses", name := "of", desc := "(II)I" } : Jvm.MethodName) prog_1_method_3_code (3 : Nat) (Option.some Jvm.ClassFile.FieldType.int)) ∈ gw := gwT (tb2 (List.mem_of_getElem? (i := 154) rfl)) rfl
theorem wn_395 : (Jvm.Cond.methodLinkNest "SinLenses" (92 : Nat) ({ cls := "SinLenses$Parish", name := "has", desc := "(I)Z" } : Jvm.MethodName) "SinLenses") ∈ tables_1 := tb2 (List.mem_of_getElem? (i := 155) rfl)
theorem wn_396 : (Jvm.Cond.methodLinkNest "SinLenses" (96 : Nat) ({ cls := "SinLenses$Parish", name := "sinOf", desc := "(II)I" } : Jvm.MethodName) "SinLenses") ∈ tables_1 := tb2 (List.mem_of_getElem? (i := 156) rfl)
theorem wd_398 : (Jvm.Cond.instanceMethod ({ cls := "SinLenses$Parish", name := "sinOf", desc := "(II)I" } : Jvm.MethodName)) ∈ gw := gwT (tb2 (List.mem_of_getElem? (i := 158) rfl)) rfl
theorem wd_399 : (Jvm.Cond.code ({ cls := "SinLenses$Parish", name := "sinOf", desc := "(II)I" } : Jvm.MethodName) prog_7_method_5_code (3 : Nat) (Option.some Jvm.ClassFile.FieldType.int)) ∈ gw := gwT (tb2 (List.mem_of_getElem? (i := 159) rfl)) rfl
theorem wn_400 : (Jvm.Cond.methodLinkNest "SinLenses" (100 : Nat) ({ cls := "SinLenses$Parish", name := "glassOf", desc := "(I)I" } : Jvm.MethodName) "SinLenses") ∈ tables_1 := tb2 (List.mem_of_getElem? (i := 160) rfl)
theorem wd_402 : (Jvm.Cond.instanceMethod ({ cls := "SinLenses$Parish", name := "glassOf", desc := "(I)I" } : Jvm.MethodName)) ∈ gw := gwT (tb2 (List.mem_of_getElem? (i := 162) rfl)) rfl
theorem wd_403 : (Jvm.Cond.code ({ cls := "SinLenses$Parish", name := "glassOf", desc := "(I)I" } : Jvm.MethodName) prog_7_method_9_code (2 : Nat) (Option.some Jvm.ClassFile.FieldType.int)) ∈ gw := gwT (tb2 (List.mem_of_getElem? (i := 163) rfl)) rfl
theorem wn_404 : (Jvm.Cond.methodLinkNest "SinLenses" (103 : Nat) ({ cls := "SinLenses$Optics", name := "lensAt", desc := "(II)I" } : Jvm.MethodName) "SinLenses") ∈ tables_1 := tb2 (List.mem_of_getElem? (i := 164) rfl)
theorem wd_405 : (Jvm.Cond.static ({ cls := "SinLenses$Optics", name := "lensAt", desc := "(II)I" } : Jvm.MethodName)) ∈ gw := gwT (tb2 (List.mem_of_getElem? (i := 165) rfl)) rfl
theorem wd_406 : (Jvm.Cond.code ({ cls := "SinLenses$Optics", name := "lensAt", desc := "(II)I" } : Jvm.MethodName) prog_5_method_5_code (4 : Nat) (Option.some Jvm.ClassFile.FieldType.int)) ∈ gw := gwT (tb2 (List.mem_of_getElem? (i := 166) rfl)) rfl
theorem wd_407 : (Jvm.Cond.methodLink "SinLenses$Optics" (15 : Nat) ({ cls := "SinLenses$Optics", name := "lensesIn", desc := "(I)I" } : Jvm.MethodName)) ∈ gw := gwT (tb2 (List.mem_of_getElem? (i := 167) rfl)) rfl
theorem wd_408 : (Jvm.Cond.static ({ cls := "SinLenses$Optics", name := "lensesIn", desc := "(I)I" } : Jvm.MethodName)) ∈ gw := gwT (tb2 (List.mem_of_getElem? (i := 168) rfl)) rfl
theorem wd_409 : (Jvm.Cond.code ({ cls := "SinLenses$Optics", name := "lensesIn", desc := "(I)I" } : Jvm.MethodName) prog_5_method_4_code (4 : Nat) (Option.some Jvm.ClassFile.FieldType.int)) ∈ gw := gwT (tb2 (List.mem_of_getElem? (i := 169) rfl)) rfl
theorem wn_410 : (Jvm.Cond.methodLinkNest "SinLenses" (108 : Nat) ({ cls := "SinLenses$Optics", name := "lensesIn", desc := "(I)I" } : Jvm.MethodName) "SinLenses") ∈ tables_1 := tb2 (List.mem_of_getElem? (i := 170) rfl)
theorem wn_411 : (Jvm.Cond.methodLinkNest "SinLenses" (111 : Nat) ({ cls := "SinLenses$Parish", name := "sightOf", desc := "(I)I" } : Jvm.MethodName) "SinLenses") ∈ tables_1 := tb2 (List.mem_of_getElem? (i := 171) rfl)
theorem wd_413 : (Jvm.Cond.instanceMethod ({ cls := "SinLenses$Parish", name := "sightOf", desc := "(I)I" } : Jvm.MethodName)) ∈ gw := gwT (tb2 (List.mem_of_getElem? (i := 173) rfl)) rfl
theorem wd_414 : (Jvm.Cond.code ({ cls := "SinLenses$Parish", name := "sightOf", desc := "(I)I" } : Jvm.MethodName) prog_7_method_11_code (2 : Nat) (Option.some Jvm.ClassFile.FieldType.int)) ∈ gw := gwT (tb2 (List.mem_of_getElem? (i := 174) rfl)) rfl
theorem wd_415 : (Jvm.Cond.methodLink "SinLenses$Parish" (81 : Nat) ({ cls := "SinLenses$Parish", name := "glassOf", desc := "(I)I" } : Jvm.MethodName)) ∈ gw := gwT (tb2 (List.mem_of_getElem? (i := 175) rfl)) rfl
theorem wd_416 : (Jvm.Cond.methodLink "SinLenses$Parish" (84 : Nat) ({ cls := "SinLenses$Parish", name := "termOf", desc := "(I)I" } : Jvm.MethodName)) ∈ gw := gwT (tb2 (List.mem_of_getElem? (i := 176) rfl)) rfl
theorem wd_418 : (Jvm.Cond.instanceMethod ({ cls := "SinLenses$Parish", name := "termOf", desc := "(I)I" } : Jvm.MethodName)) ∈ gw := gwT (tb2 (List.mem_of_getElem? (i := 178) rfl)) rfl
theorem wd_419 : (Jvm.Cond.code ({ cls := "SinLenses$Parish", name := "termOf", desc := "(I)I" } : Jvm.MethodName) prog_7_method_14_code (2 : Nat) (Option.some Jvm.ClassFile.FieldType.int)) ∈ gw := gwT (tb2 (List.mem_of_getElem? (i := 179) rfl)) rfl
theorem wn_420 : (Jvm.Cond.methodLinkNest "SinLenses$Parish" (87 : Nat) ({ cls := "SinLenses$Optics", name := "through", desc := "(II)I" } : Jvm.MethodName) "SinLenses") ∈ tables_1 := tb2 (List.mem_of_getElem? (i := 180) rfl)
theorem wd_421 : (Jvm.Cond.static ({ cls := "SinLenses$Optics", name := "through", desc := "(II)I" } : Jvm.MethodName)) ∈ gw := gwT (tb2 (List.mem_of_getElem? (i := 181) rfl)) rfl
theorem wd_422 : (Jvm.Cond.code ({ cls := "SinLenses$Optics", name := "through", desc := "(II)I" } : Jvm.MethodName) prog_5_method_3_code (5 : Nat) (Option.some Jvm.ClassFile.FieldType.int)) ∈ gw := gwT (tb2 (List.mem_of_getElem? (i := 182) rfl)) rfl
theorem wd_423 : (Jvm.Cond.methodLink "SinLenses$Optics" (11 : Nat) ({ cls := "SinLenses$Optics", name := "bend", desc := "(II)I" } : Jvm.MethodName)) ∈ gw := gwT (tb2 (List.mem_of_getElem? (i := 183) rfl)) rfl
theorem wd_424 : (Jvm.Cond.static ({ cls := "SinLenses$Optics", name := "bend", desc := "(II)I" } : Jvm.MethodName)) ∈ gw := gwT (tb2 (List.mem_of_getElem? (i := 184) rfl)) rfl
theorem wd_425 : (Jvm.Cond.code ({ cls := "SinLenses$Optics", name := "bend", desc := "(II)I" } : Jvm.MethodName) prog_5_method_2_code (4 : Nat) (Option.some Jvm.ClassFile.FieldType.int)) ∈ gw := gwT (tb2 (List.mem_of_getElem? (i := 185) rfl)) rfl
theorem wn_426 : (Jvm.Cond.methodLinkNest "SinLenses" (114 : Nat) ({ cls := "SinLenses$Judge", name := "deed", desc := "(LSinLenses$Parish;II)I" } : Jvm.MethodName) "SinLenses") ∈ tables_1 := tb2 (List.mem_of_getElem? (i := 186) rfl)
theorem wd_428 : (Jvm.Cond.instanceMethod ({ cls := "SinLenses$Judge", name := "deed", desc := "(LSinLenses$Parish;II)I" } : Jvm.MethodName)) ∈ gw := gwT (tb2 (List.mem_of_getElem? (i := 188) rfl)) rfl
theorem wd_429 : (Jvm.Cond.code ({ cls := "SinLenses$Judge", name := "deed", desc := "(LSinLenses$Parish;II)I" } : Jvm.MethodName) prog_4_method_4_code (5 : Nat) (Option.some Jvm.ClassFile.FieldType.int)) ∈ gw := gwT (tb2 (List.mem_of_getElem? (i := 189) rfl)) rfl
theorem wd_430 : (Jvm.Cond.methodLink "SinLenses$Judge" (45 : Nat) ({ cls := "SinLenses$Judge", name := "aboutPerson", desc := "(LSinLenses$Parish;II)V" } : Jvm.MethodName)) ∈ gw := gwT (tb2 (List.mem_of_getElem? (i := 190) rfl)) rfl
theorem wd_432 : (Jvm.Cond.instanceMethod ({ cls := "SinLenses$Judge", name := "aboutPerson", desc := "(LSinLenses$Parish;II)V" } : Jvm.MethodName)) ∈ gw := gwT (tb2 (List.mem_of_getElem? (i := 192) rfl)) rfl
theorem wd_433 : (Jvm.Cond.code ({ cls := "SinLenses$Judge", name := "aboutPerson", desc := "(LSinLenses$Parish;II)V" } : Jvm.MethodName) prog_4_method_8_code (4 : Nat) (Option.none : Option Jvm.ClassFile.FieldType)) ∈ gw := gwT (tb2 (List.mem_of_getElem? (i := 193) rfl)) rfl
theorem wn_434 : (Jvm.Cond.methodLinkNest "SinLenses$Judge" (61 : Nat) ({ cls := "SinLenses$Parish", name := "sinsOf", desc := "(I)I" } : Jvm.MethodName) "SinLenses") ∈ tables_1 := tb2 (List.mem_of_getElem? (i := 194) rfl)
theorem wd_436 : (Jvm.Cond.instanceMethod ({ cls := "SinLenses$Parish", name := "sinsOf", desc := "(I)I" } : Jvm.MethodName)) ∈ gw := gwT (tb2 (List.mem_of_getElem? (i := 196) rfl)) rfl
theorem wd_437 : (Jvm.Cond.code ({ cls := "SinLenses$Parish", name := "sinsOf", desc := "(I)I" } : Jvm.MethodName) prog_7_method_7_code (4 : Nat) (Option.some Jvm.ClassFile.FieldType.int)) ∈ gw := gwT (tb2 (List.mem_of_getElem? (i := 197) rfl)) rfl
theorem wn_438 : (Jvm.Cond.methodLinkNest "SinLenses$Judge" (48 : Nat) ({ cls := "SinLenses$Optics", name := "litCells", desc := "(I)I" } : Jvm.MethodName) "SinLenses") ∈ tables_1 := tb2 (List.mem_of_getElem? (i := 198) rfl)
theorem wd_439 : (Jvm.Cond.static ({ cls := "SinLenses$Optics", name := "litCells", desc := "(I)I" } : Jvm.MethodName)) ∈ gw := gwT (tb2 (List.mem_of_getElem? (i := 199) rfl)) rfl
theorem wd_440 : (Jvm.Cond.code ({ cls := "SinLenses$Optics", name := "litCells", desc := "(I)I" } : Jvm.MethodName) prog_5_method_6_code (3 : Nat) (Option.some Jvm.ClassFile.FieldType.int)) ∈ gw := gwT (tb2 (List.mem_of_getElem? (i := 200) rfl)) rfl
theorem wn_441 : (Jvm.Cond.methodLinkNest "SinLenses$Judge" (67 : Nat) ({ cls := "SinLenses$Optics", name := "lowestLit", desc := "(I)I" } : Jvm.MethodName) "SinLenses") ∈ tables_1 := tb2 (List.mem_of_getElem? (i := 201) rfl)
theorem wd_442 : (Jvm.Cond.static ({ cls := "SinLenses$Optics", name := "lowestLit", desc := "(I)I" } : Jvm.MethodName)) ∈ gw := gwT (tb2 (List.mem_of_getElem? (i := 202) rfl)) rfl
theorem wd_443 : (Jvm.Cond.code ({ cls := "SinLenses$Optics", name := "lowestLit", desc := "(I)I" } : Jvm.MethodName) prog_5_method_7_code (2 : Nat) (Option.some Jvm.ClassFile.FieldType.int)) ∈ gw := gwT (tb2 (List.mem_of_getElem? (i := 203) rfl)) rfl
theorem wn_444 : (Jvm.Cond.methodLinkNest "SinLenses$Judge" (64 : Nat) ({ cls := "SinLenses$Parish", name := "termOf", desc := "(I)I" } : Jvm.MethodName) "SinLenses") ∈ tables_1 := tb2 (List.mem_of_getElem? (i := 204) rfl)
theorem wn_445 : (Jvm.Cond.methodLinkNest "SinLenses$Judge" (41 : Nat) ({ cls := "SinLenses$Parish", name := "lawInForce", desc := "()LSinLenses$Text;" } : Jvm.MethodName) "SinLenses") ∈ tables_1 := tb2 (List.mem_of_getElem? (i := 205) rfl)
theorem wd_447 : (Jvm.Cond.instanceMethod ({ cls := "SinLenses$Parish", name := "lawInForce", desc := "()LSinLenses$Text;" } : Jvm.MethodName)) ∈ gw := gwT (tb2 (List.mem_of_getElem? (i := 207) rfl)) rfl
theorem wd_448 : (Jvm.Cond.code ({ cls := "SinLenses$Parish", name := "lawInForce", desc := "()LSinLenses$Text;" } : Jvm.MethodName) prog_7_method_19_code (1 : Nat) (Option.some (Jvm.ClassFile.FieldType.object "SinLenses$Text"))) ∈ gw := gwT (tb2 (List.mem_of_getElem? (i := 208) rfl)) rfl
theorem wd_449 : (Jvm.Cond.methodLink "SinLenses$Parish" (96 : Nat) ({ cls := "SinLenses$Parish", name := "lawAt", desc := "(I)LSinLenses$Text;" } : Jvm.MethodName)) ∈ gw := gwT (tb2 (List.mem_of_getElem? (i := 209) rfl)) rfl
theorem wd_451 : (Jvm.Cond.instanceMethod ({ cls := "SinLenses$Parish", name := "lawAt", desc := "(I)LSinLenses$Text;" } : Jvm.MethodName)) ∈ gw := gwT (tb2 (List.mem_of_getElem? (i := 211) rfl)) rfl
theorem wd_452 : (Jvm.Cond.code ({ cls := "SinLenses$Parish", name := "lawAt", desc := "(I)LSinLenses$Text;" } : Jvm.MethodName) prog_7_method_18_code (2 : Nat) (Option.some (Jvm.ClassFile.FieldType.object "SinLenses$Text"))) ∈ gw := gwT (tb2 (List.mem_of_getElem? (i := 212) rfl)) rfl
theorem wd_453 : (Jvm.Cond.methodLink "SinLenses$Parish" (93 : Nat) ({ cls := "SinLenses$Parish", name := "hasLaw", desc := "(I)Z" } : Jvm.MethodName)) ∈ gw := gwT (tb2 (List.mem_of_getElem? (i := 213) rfl)) rfl
theorem wd_455 : (Jvm.Cond.instanceMethod ({ cls := "SinLenses$Parish", name := "hasLaw", desc := "(I)Z" } : Jvm.MethodName)) ∈ gw := gwT (tb2 (List.mem_of_getElem? (i := 215) rfl)) rfl
theorem wd_456 : (Jvm.Cond.code ({ cls := "SinLenses$Parish", name := "hasLaw", desc := "(I)Z" } : Jvm.MethodName) prog_7_method_17_code (2 : Nat) (Option.some Jvm.ClassFile.FieldType.boolean)) ∈ gw := gwT (tb2 (List.mem_of_getElem? (i := 216) rfl)) rfl
theorem wd_457 : (Jvm.Cond.methodLink "SinLenses$Judge" (26 : Nat) ({ cls := "SinLenses$Judge", name := "lastTold", desc := "(LSinLenses$Text;I)I" } : Jvm.MethodName)) ∈ gw := gwT (tb2 (List.mem_of_getElem? (i := 217) rfl)) rfl
theorem wd_459 : (Jvm.Cond.instanceMethod ({ cls := "SinLenses$Judge", name := "lastTold", desc := "(LSinLenses$Text;I)I" } : Jvm.MethodName)) ∈ gw := gwT (tb2 (List.mem_of_getElem? (i := 219) rfl)) rfl
theorem wd_460 : (Jvm.Cond.code ({ cls := "SinLenses$Judge", name := "lastTold", desc := "(LSinLenses$Text;I)I" } : Jvm.MethodName) prog_4_method_9_code (8 : Nat) (Option.some Jvm.ClassFile.FieldType.int)) ∈ gw := gwT (tb2 (List.mem_of_getElem? (i := 220) rfl)) rfl
theorem wd_461 : (Jvm.Cond.constant "SinLenses$Judge" (30 : Nat) (-2147483648 : Int32)) ∈ gw := gwT (tb2 (List.mem_of_getElem? (i := 221) rfl)) rfl
theorem wn_462 : (Jvm.Cond.methodLinkNest "SinLenses$Judge" (76 : Nat) ({ cls := "SinLenses$Text", name := "verbOf", desc := "(I)I" } : Jvm.MethodName) "SinLenses") ∈ tables_1 := tb2 (List.mem_of_getElem? (i := 222) rfl)
theorem wd_464 : (Jvm.Cond.instanceMethod ({ cls := "SinLenses$Text", name := "verbOf", desc := "(I)I" } : Jvm.MethodName)) ∈ gw := gwT (tb2 (List.mem_of_getElem? (i := 224) rfl)) rfl
theorem wd_465 : (Jvm.Cond.code ({ cls := "SinLenses$Text", name := "verbOf", desc := "(I)I" } : Jvm.MethodName) prog_10_method_9_code (2 : Nat) (Option.some Jvm.ClassFile.FieldType.int)) ∈ gw := gwT (tb2 (List.mem_of_getElem? (i := 225) rfl)) rfl
theorem wn_466 : (Jvm.Cond.methodLinkNest "SinLenses$Judge" (79 : Nat) ({ cls := "SinLenses$Text", name := "markOf", desc := "(II)I" } : Jvm.MethodName) "SinLenses") ∈ tables_1 := tb2 (List.mem_of_getElem? (i := 226) rfl)
theorem wd_468 : (Jvm.Cond.instanceMethod ({ cls := "SinLenses$Text", name := "markOf", desc := "(II)I" } : Jvm.MethodName)) ∈ gw := gwT (tb2 (List.mem_of_getElem? (i := 228) rfl)) rfl
theorem wd_469 : (Jvm.Cond.code ({ cls := "SinLenses$Text", name := "markOf", desc := "(II)I" } : Jvm.MethodName) prog_10_method_12_code (4 : Nat) (Option.some Jvm.ClassFile.FieldType.int)) ∈ gw := gwT (tb2 (List.mem_of_getElem? (i := 229) rfl)) rfl
theorem wn_470 : (Jvm.Cond.methodLinkNest "SinLenses$Judge" (82 : Nat) ({ cls := "SinLenses$Sums", name := "worth", desc := "(LSinLenses$Text;II[I)I" } : Jvm.MethodName) "SinLenses") ∈ tables_1 := tb2 (List.mem_of_getElem? (i := 230) rfl)
theorem wd_472 : (Jvm.Cond.instanceMethod ({ cls := "SinLenses$Sums", name := "worth", desc := "(LSinLenses$Text;II[I)I" } : Jvm.MethodName)) ∈ gw := gwT (tb2 (List.mem_of_getElem? (i := 232) rfl)) rfl
theorem wd_473 : (Jvm.Cond.code ({ cls := "SinLenses$Sums", name := "worth", desc := "(LSinLenses$Text;II[I)I" } : Jvm.MethodName) prog_9_method_2_code (12 : Nat) (Option.some Jvm.ClassFile.FieldType.int)) ∈ gw := gwT (tb2 (List.mem_of_getElem? (i := 233) rfl)) rfl
theorem wd_474 : (Jvm.Cond.constant "SinLenses$Sums" (21 : Nat) (-2147483648 : Int32)) ∈ gw := gwT (tb2 (List.mem_of_getElem? (i := 234) rfl)) rfl
theorem wd_475 : (Jvm.Cond.methodLink "SinLenses$Sums" (22 : Nat) ({ cls := "SinLenses$Sums", name := "wordAt", desc := "([II)I" } : Jvm.MethodName)) ∈ gw := gwT (tb2 (List.mem_of_getElem? (i := 235) rfl)) rfl
theorem wd_476 : (Jvm.Cond.static ({ cls := "SinLenses$Sums", name := "wordAt", desc := "([II)I" } : Jvm.MethodName)) ∈ gw := gwT (tb2 (List.mem_of_getElem? (i := 236) rfl)) rfl
theorem wd_477 : (Jvm.Cond.code ({ cls := "SinLenses$Sums", name := "wordAt", desc := "([II)I" } : Jvm.MethodName) prog_9_method_3_code (2 : Nat) (Option.some Jvm.ClassFile.FieldType.int)) ∈ gw := gwT (tb2 (List.mem_of_getElem? (i := 237) rfl)) rfl
theorem wd_478 : (Jvm.Cond.methodLink "SinLenses$Sums" (26 : Nat) ({ cls := "SinLenses$Sums", name := "joined", desc := "(IJJ)J" } : Jvm.MethodName)) ∈ gw := gwT (tb2 (List.mem_of_getElem? (i := 238) rfl)) rfl
theorem wd_479 : (Jvm.Cond.static ({ cls := "SinLenses$Sums", name := "joined", desc := "(IJJ)J" } : Jvm.MethodName)) ∈ gw := gwT (tb2 (List.mem_of_getElem? (i := 239) rfl)) rfl
theorem wd_480 : (Jvm.Cond.code ({ cls := "SinLenses$Sums", name := "joined", desc := "(IJJ)J" } : Jvm.MethodName) prog_9_method_4_code (5 : Nat) (Option.some Jvm.ClassFile.FieldType.long)) ∈ gw := gwT (tb3 (List.mem_of_getElem? (i := 0) rfl)) rfl
theorem wd_481 : (Jvm.Cond.constantLong "SinLenses$Sums" (34 : Nat) (1000000001 : Int64)) ∈ gw := gwT (tb3 (List.mem_of_getElem? (i := 1) rfl)) rfl
theorem wd_482 : (Jvm.Cond.constantLong "SinLenses$Sums" (30 : Nat) (1000000000 : Int64)) ∈ gw := gwT (tb3 (List.mem_of_getElem? (i := 2) rfl)) rfl
theorem wd_483 : (Jvm.Cond.constantLong "SinLenses$Sums" (32 : Nat) (-1000000000 : Int64)) ∈ gw := gwT (tb3 (List.mem_of_getElem? (i := 3) rfl)) rfl
theorem wn_484 : (Jvm.Cond.methodLinkNest "SinLenses$Judge" (31 : Nat) ({ cls := "SinLenses", name := "nearest", desc := "(III)I" } : Jvm.MethodName) "SinLenses") ∈ tables_1 := tb3 (List.mem_of_getElem? (i := 4) rfl)
theorem wn_485 : (Jvm.Cond.methodLinkNest "SinLenses" (118 : Nat) ({ cls := "SinLenses$Parish", name := "wantedOf", desc := "(I)I" } : Jvm.MethodName) "SinLenses") ∈ tables_1 := tb3 (List.mem_of_getElem? (i := 5) rfl)
theorem wd_487 : (Jvm.Cond.instanceMethod ({ cls := "SinLenses$Parish", name := "wantedOf", desc := "(I)I" } : Jvm.MethodName)) ∈ gw := gwT (tb3 (List.mem_of_getElem? (i := 7) rfl)) rfl
theorem wd_488 : (Jvm.Cond.code ({ cls := "SinLenses$Parish", name := "wantedOf", desc := "(I)I" } : Jvm.MethodName) prog_7_method_12_code (2 : Nat) (Option.some Jvm.ClassFile.FieldType.int)) ∈ gw := gwT (tb3 (List.mem_of_getElem? (i := 8) rfl)) rfl
theorem wn_489 : (Jvm.Cond.methodLinkNest "SinLenses" (121 : Nat) ({ cls := "SinLenses$Judge", name := "bars", desc := "(LSinLenses$Parish;I)Z" } : Jvm.MethodName) "SinLenses") ∈ tables_1 := tb3 (List.mem_of_getElem? (i := 9) rfl)
theorem wd_491 : (Jvm.Cond.instanceMethod ({ cls := "SinLenses$Judge", name := "bars", desc := "(LSinLenses$Parish;I)Z" } : Jvm.MethodName)) ∈ gw := gwT (tb3 (List.mem_of_getElem? (i := 11) rfl)) rfl
theorem wd_492 : (Jvm.Cond.code ({ cls := "SinLenses$Judge", name := "bars", desc := "(LSinLenses$Parish;I)Z" } : Jvm.MethodName) prog_4_method_5_code (3 : Nat) (Option.some Jvm.ClassFile.FieldType.boolean)) ∈ gw := gwT (tb3 (List.mem_of_getElem? (i := 12) rfl)) rfl
theorem wn_493 : (Jvm.Cond.methodLinkNest "SinLenses$Judge" (54 : Nat) ({ cls := "SinLenses$Parish", name := "sightOf", desc := "(I)I" } : Jvm.MethodName) "SinLenses") ∈ tables_1 := tb3 (List.mem_of_getElem? (i := 13) rfl)
theorem wd_494 : (Jvm.Cond.methodLink "SinLensesLaw" (23 : Nat) ({ cls := "SinLenses", name := "asks", desc := "(III)I" } : Jvm.MethodName)) ∈ gw := gwT (tb3 (List.mem_of_getElem? (i := 14) rfl)) rfl
theorem wd_495 : (Jvm.Cond.instanceMethod ({ cls := "SinLenses", name := "asks", desc := "(III)I" } : Jvm.MethodName)) ∈ gw := gwT (tb3 (List.mem_of_getElem? (i := 15) rfl)) rfl
theorem wd_496 : (Jvm.Cond.selects "SinLenses" ({ cls := "SinLenses", name := "asks", desc := "(III)I" } : Jvm.MethodName) ({ cls := "SinLenses", name := "asks", desc := "(III)I" } : Jvm.MethodName)) ∈ gw := gwT (tb3 (List.mem_of_getElem? (i := 16) rfl)) rfl
theorem wd_497 : (Jvm.Cond.code ({ cls := "SinLenses", name := "asks", desc := "(III)I" } : Jvm.MethodName) prog_1_method_4_code (4 : Nat) (Option.some Jvm.ClassFile.FieldType.int)) ∈ gw := gwT (tb3 (List.mem_of_getElem? (i := 17) rfl)) rfl
theorem wd_498 : (Jvm.Cond.methodLink "SinLenses" (125 : Nat) ({ cls := "SinLenses", name := "isKind", desc := "(I)Z" } : Jvm.MethodName)) ∈ gw := gwT (tb3 (List.mem_of_getElem? (i := 18) rfl)) rfl
theorem wn_499 : (Jvm.Cond.methodLinkNest "SinLenses" (128 : Nat) ({ cls := "SinLenses$Parish", name := "lawInForce", desc := "()LSinLenses$Text;" } : Jvm.MethodName) "SinLenses") ∈ tables_1 := tb3 (List.mem_of_getElem? (i := 19) rfl)
theorem wn_500 : (Jvm.Cond.methodLinkNest "SinLenses" (132 : Nat) ({ cls := "SinLenses$Judge", name := "lensFor", desc := "(LSinLenses$Parish;LSinLenses$Text;II)I" } : Jvm.MethodName) "SinLenses") ∈ tables_1 := tb3 (List.mem_of_getElem? (i := 20) rfl)
theorem wd_502 : (Jvm.Cond.instanceMethod ({ cls := "SinLenses$Judge", name := "lensFor", desc := "(LSinLenses$Parish;LSinLenses$Text;II)I" } : Jvm.MethodName)) ∈ gw := gwT (tb3 (List.mem_of_getElem? (i := 22) rfl)) rfl
theorem wd_503 : (Jvm.Cond.code ({ cls := "SinLenses$Judge", name := "lensFor", desc := "(LSinLenses$Parish;LSinLenses$Text;II)I" } : Jvm.MethodName) prog_4_method_2_code (6 : Nat) (Option.some Jvm.ClassFile.FieldType.int)) ∈ gw := gwT (tb3 (List.mem_of_getElem? (i := 23) rfl)) rfl
theorem wd_504 : (Jvm.Cond.methodLink "SinLenses$Judge" (22 : Nat) ({ cls := "SinLenses$Judge", name := "aboutSin", desc := "(LSinLenses$Parish;II)V" } : Jvm.MethodName)) ∈ gw := gwT (tb3 (List.mem_of_getElem? (i := 24) rfl)) rfl
theorem wd_506 : (Jvm.Cond.instanceMethod ({ cls := "SinLenses$Judge", name := "aboutSin", desc := "(LSinLenses$Parish;II)V" } : Jvm.MethodName)) ∈ gw := gwT (tb3 (List.mem_of_getElem? (i := 26) rfl)) rfl
theorem wd_507 : (Jvm.Cond.code ({ cls := "SinLenses$Judge", name := "aboutSin", desc := "(LSinLenses$Parish;II)V" } : Jvm.MethodName) prog_4_method_7_code (4 : Nat) (Option.none : Option Jvm.ClassFile.FieldType)) ∈ gw := gwT (tb3 (List.mem_of_getElem? (i := 27) rfl)) rfl
theorem wn_508 : (Jvm.Cond.methodLinkNest "SinLenses$Judge" (35 : Nat) ({ cls := "SinLenses$Parish", name := "sinOf", desc := "(II)I" } : Jvm.MethodName) "SinLenses") ∈ tables_1 := tb3 (List.mem_of_getElem? (i := 28) rfl)
theorem wn_509 : (Jvm.Cond.methodLinkNest "SinLenses" (136 : Nat) ({ cls := "SinLenses$Judge", name := "growth", desc := "(LSinLenses$Parish;II)I" } : Jvm.MethodName) "SinLenses") ∈ tables_1 := tb3 (List.mem_of_getElem? (i := 29) rfl)
theorem wd_511 : (Jvm.Cond.instanceMethod ({ cls := "SinLenses$Judge", name := "growth", desc := "(LSinLenses$Parish;II)I" } : Jvm.MethodName)) ∈ gw := gwT (tb3 (List.mem_of_getElem? (i := 31) rfl)) rfl
theorem wd_512 : (Jvm.Cond.code ({ cls := "SinLenses$Judge", name := "growth", desc := "(LSinLenses$Parish;II)I" } : Jvm.MethodName) prog_4_method_3_code (5 : Nat) (Option.some Jvm.ClassFile.FieldType.int)) ∈ gw := gwT (tb3 (List.mem_of_getElem? (i := 32) rfl)) rfl
theorem wd_513 : (Jvm.Cond.methodLink "SinLensesLaw" (28 : Nat) ({ cls := "SinLenses", name := "glass", desc := "(II)I" } : Jvm.MethodName)) ∈ gw := gwT (tb3 (List.mem_of_getElem? (i := 33) rfl)) rfl
theorem wd_514 : (Jvm.Cond.instanceMethod ({ cls := "SinLenses", name := "glass", desc := "(II)I" } : Jvm.MethodName)) ∈ gw := gwT (tb3 (List.mem_of_getElem? (i := 34) rfl)) rfl
theorem wd_515 : (Jvm.Cond.selects "SinLenses" ({ cls := "SinLenses", name := "glass", desc := "(II)I" } : Jvm.MethodName) ({ cls := "SinLenses", name := "glass", desc := "(II)I" } : Jvm.MethodName)) ∈ gw := gwT (tb3 (List.mem_of_getElem? (i := 35) rfl)) rfl
theorem wd_516 : (Jvm.Cond.code ({ cls := "SinLenses", name := "glass", desc := "(II)I" } : Jvm.MethodName) prog_1_method_5_code (4 : Nat) (Option.some Jvm.ClassFile.FieldType.int)) ∈ gw := gwT (tb3 (List.mem_of_getElem? (i := 36) rfl)) rfl
theorem wn_517 : (Jvm.Cond.methodLinkNest "SinLenses" (139 : Nat) ({ cls := "SinLenses$Parish", name := "setGlass", desc := "(II)V" } : Jvm.MethodName) "SinLenses") ∈ tables_1 := tb3 (List.mem_of_getElem? (i := 37) rfl)
theorem wd_518 : (Jvm.Cond.methodLink "SinLensesLaw" (32 : Nat) ({ cls := "SinLenses", name := "wanted", desc := "(II)I" } : Jvm.MethodName)) ∈ gw := gwT (tb3 (List.mem_of_getElem? (i := 38) rfl)) rfl
theorem wd_519 : (Jvm.Cond.instanceMethod ({ cls := "SinLenses", name := "wanted", desc := "(II)I" } : Jvm.MethodName)) ∈ gw := gwT (tb3 (List.mem_of_getElem? (i := 39) rfl)) rfl
theorem wd_520 : (Jvm.Cond.selects "SinLenses" ({ cls := "SinLenses", name := "wanted", desc := "(II)I" } : Jvm.MethodName) ({ cls := "SinLenses", name := "wanted", desc := "(II)I" } : Jvm.MethodName)) ∈ gw := gwT (tb3 (List.mem_of_getElem? (i := 40) rfl)) rfl
theorem wd_521 : (Jvm.Cond.code ({ cls := "SinLenses", name := "wanted", desc := "(II)I" } : Jvm.MethodName) prog_1_method_6_code (4 : Nat) (Option.some Jvm.ClassFile.FieldType.int)) ∈ gw := gwT (tb3 (List.mem_of_getElem? (i := 41) rfl)) rfl
theorem wn_522 : (Jvm.Cond.methodLinkNest "SinLenses" (143 : Nat) ({ cls := "SinLenses$Parish", name := "setWanted", desc := "(II)V" } : Jvm.MethodName) "SinLenses") ∈ tables_1 := tb3 (List.mem_of_getElem? (i := 42) rfl)
theorem wd_523 : (Jvm.Cond.methodLink "SinLensesLaw" (36 : Nat) ({ cls := "SinLenses", name := "lens", desc := "(II)I" } : Jvm.MethodName)) ∈ gw := gwT (tb3 (List.mem_of_getElem? (i := 43) rfl)) rfl
theorem wd_524 : (Jvm.Cond.instanceMethod ({ cls := "SinLenses", name := "lens", desc := "(II)I" } : Jvm.MethodName)) ∈ gw := gwT (tb3 (List.mem_of_getElem? (i := 44) rfl)) rfl
theorem wd_525 : (Jvm.Cond.selects "SinLenses" ({ cls := "SinLenses", name := "lens", desc := "(II)I" } : Jvm.MethodName) ({ cls := "SinLenses", name := "lens", desc := "(II)I" } : Jvm.MethodName)) ∈ gw := gwT (tb3 (List.mem_of_getElem? (i := 45) rfl)) rfl
theorem wd_526 : (Jvm.Cond.code ({ cls := "SinLenses", name := "lens", desc := "(II)I" } : Jvm.MethodName) prog_1_method_7_code (3 : Nat) (Option.some Jvm.ClassFile.FieldType.int)) ∈ gw := gwT (tb3 (List.mem_of_getElem? (i := 46) rfl)) rfl
theorem wd_527 : (Jvm.Cond.methodLink "SinLenses" (146 : Nat) ({ cls := "SinLenses", name := "isLens", desc := "(I)Z" } : Jvm.MethodName)) ∈ gw := gwT (tb3 (List.mem_of_getElem? (i := 47) rfl)) rfl
theorem wd_528 : (Jvm.Cond.static ({ cls := "SinLenses", name := "isLens", desc := "(I)Z" } : Jvm.MethodName)) ∈ gw := gwT (tb3 (List.mem_of_getElem? (i := 48) rfl)) rfl
theorem wd_529 : (Jvm.Cond.code ({ cls := "SinLenses", name := "isLens", desc := "(I)Z" } : Jvm.MethodName) prog_1_method_48_code (1 : Nat) (Option.some Jvm.ClassFile.FieldType.boolean)) ∈ gw := gwT (tb3 (List.mem_of_getElem? (i := 49) rfl)) rfl
theorem wd_530 : (Jvm.Cond.methodLink "SinLenses" (149 : Nat) ({ cls := "SinLenses", name := "isNumber", desc := "(I)Z" } : Jvm.MethodName)) ∈ gw := gwT (tb3 (List.mem_of_getElem? (i := 50) rfl)) rfl
theorem wd_531 : (Jvm.Cond.static ({ cls := "SinLenses", name := "isNumber", desc := "(I)Z" } : Jvm.MethodName)) ∈ gw := gwT (tb3 (List.mem_of_getElem? (i := 51) rfl)) rfl
theorem wd_532 : (Jvm.Cond.code ({ cls := "SinLenses", name := "isNumber", desc := "(I)Z" } : Jvm.MethodName) prog_1_method_49_code (1 : Nat) (Option.some Jvm.ClassFile.FieldType.boolean)) ∈ gw := gwT (tb3 (List.mem_of_getElem? (i := 52) rfl)) rfl
theorem wn_533 : (Jvm.Cond.methodLinkNest "SinLenses" (152 : Nat) ({ cls := "SinLenses$Optics", name := "bend", desc := "(II)I" } : Jvm.MethodName) "SinLenses") ∈ tables_1 := tb3 (List.mem_of_getElem? (i := 53) rfl)
theorem wd_534 : (Jvm.Cond.methodLink "SinLensesLaw" (40 : Nat) ({ cls := "SinLenses", name := "terms", desc := "(II)I" } : Jvm.MethodName)) ∈ gw := gwT (tb3 (List.mem_of_getElem? (i := 54) rfl)) rfl
theorem wd_535 : (Jvm.Cond.instanceMethod ({ cls := "SinLenses", name := "terms", desc := "(II)I" } : Jvm.MethodName)) ∈ gw := gwT (tb3 (List.mem_of_getElem? (i := 55) rfl)) rfl
theorem wd_536 : (Jvm.Cond.selects "SinLenses" ({ cls := "SinLenses", name := "terms", desc := "(II)I" } : Jvm.MethodName) ({ cls := "SinLenses", name := "terms", desc := "(II)I" } : Jvm.MethodName)) ∈ gw := gwT (tb3 (List.mem_of_getElem? (i := 56) rfl)) rfl
theorem wd_537 : (Jvm.Cond.code ({ cls := "SinLenses", name := "terms", desc := "(II)I" } : Jvm.MethodName) prog_1_method_8_code (4 : Nat) (Option.some Jvm.ClassFile.FieldType.int)) ∈ gw := gwT (tb3 (List.mem_of_getElem? (i := 57) rfl)) rfl
theorem wd_538 : (Jvm.Cond.fieldLink "SinLenses" (155 : Nat) "SinLenses" "MOST_OF_TERMS" "[I") ∈ gw := gwT (tb3 (List.mem_of_getElem? (i := 58) rfl)) rfl
theorem wn_539 : (Jvm.Cond.laysStatic "SinLenses" "MOST_OF_TERMS" "[I") ∈ tables_1 := tb3 (List.mem_of_getElem? (i := 59) rfl)
theorem wn_540 : (Jvm.Cond.methodLinkNest "SinLenses" (158 : Nat) ({ cls := "SinLenses$Parish", name := "termOf", desc := "(I)I" } : Jvm.MethodName) "SinLenses") ∈ tables_1 := tb3 (List.mem_of_getElem? (i := 60) rfl)
theorem wn_541 : (Jvm.Cond.methodLinkNest "SinLenses" (161 : Nat) ({ cls := "SinLenses$Parish", name := "setTerm", desc := "(II)V" } : Jvm.MethodName) "SinLenses") ∈ tables_1 := tb3 (List.mem_of_getElem? (i := 61) rfl)
theorem wd_543 : (Jvm.Cond.instanceMethod ({ cls := "SinLenses$Parish", name := "setTerm", desc := "(II)V" } : Jvm.MethodName)) ∈ gw := gwT (tb3 (List.mem_of_getElem? (i := 63) rfl)) rfl
theorem wd_544 : (Jvm.Cond.code ({ cls := "SinLenses$Parish", name := "setTerm", desc := "(II)V" } : Jvm.MethodName) prog_7_method_15_code (3 : Nat) (Option.none : Option Jvm.ClassFile.FieldType)) ∈ gw := gwT (tb3 (List.mem_of_getElem? (i := 64) rfl)) rfl
theorem wd_545 : (Jvm.Cond.methodLink "SinLensesLaw" (44 : Nat) ({ cls := "SinLenses", name := "feed", desc := "(IIIII)I" } : Jvm.MethodName)) ∈ gw := gwT (tb3 (List.mem_of_getElem? (i := 65) rfl)) rfl
theorem wd_546 : (Jvm.Cond.instanceMethod ({ cls := "SinLenses", name := "feed", desc := "(IIIII)I" } : Jvm.MethodName)) ∈ gw := gwT (tb3 (List.mem_of_getElem? (i := 66) rfl)) rfl
theorem wd_547 : (Jvm.Cond.selects "SinLenses" ({ cls := "SinLenses", name := "feed", desc := "(IIIII)I" } : Jvm.MethodName) ({ cls := "SinLenses", name := "feed", desc := "(IIIII)I" } : Jvm.MethodName)) ∈ gw := gwT (tb3 (List.mem_of_getElem? (i := 67) rfl)) rfl
theorem wd_548 : (Jvm.Cond.code ({ cls := "SinLenses", name := "feed", desc := "(IIIII)I" } : Jvm.MethodName) prog_1_method_9_code (6 : Nat) (Option.some Jvm.ClassFile.FieldType.int)) ∈ gw := gwT (tb3 (List.mem_of_getElem? (i := 68) rfl)) rfl
theorem wn_549 : (Jvm.Cond.methodLinkNest "SinLenses" (164 : Nat) ({ cls := "SinLenses$Reader", name := "hasRoomFor", desc := "(I)Z" } : Jvm.MethodName) "SinLenses") ∈ tables_1 := tb3 (List.mem_of_getElem? (i := 69) rfl)
theorem wd_551 : (Jvm.Cond.instanceMethod ({ cls := "SinLenses$Reader", name := "hasRoomFor", desc := "(I)Z" } : Jvm.MethodName)) ∈ gw := gwT (tb3 (List.mem_of_getElem? (i := 71) rfl)) rfl
theorem wd_552 : (Jvm.Cond.code ({ cls := "SinLenses$Reader", name := "hasRoomFor", desc := "(I)Z" } : Jvm.MethodName) prog_8_method_2_code (2 : Nat) (Option.some Jvm.ClassFile.FieldType.boolean)) ∈ gw := gwT (tb3 (List.mem_of_getElem? (i := 72) rfl)) rfl
theorem wn_553 : (Jvm.Cond.methodLinkNest "SinLenses" (167 : Nat) ({ cls := "SinLenses$Reader", name := "addFour", desc := "(I)V" } : Jvm.MethodName) "SinLenses") ∈ tables_1 := tb3 (List.mem_of_getElem? (i := 73) rfl)
theorem wd_555 : (Jvm.Cond.instanceMethod ({ cls := "SinLenses$Reader", name := "addFour", desc := "(I)V" } : Jvm.MethodName)) ∈ gw := gwT (tb3 (List.mem_of_getElem? (i := 75) rfl)) rfl
theorem wd_556 : (Jvm.Cond.code ({ cls := "SinLenses$Reader", name := "addFour", desc := "(I)V" } : Jvm.MethodName) prog_8_method_3_code (3 : Nat) (Option.none : Option Jvm.ClassFile.FieldType)) ∈ gw := gwT (tb3 (List.mem_of_getElem? (i := 76) rfl)) rfl
theorem wd_557 : (Jvm.Cond.methodLink "SinLensesLaw" (49 : Nat) ({ cls := "SinLenses", name := "end", desc := "(I)I" } : Jvm.MethodName)) ∈ gw := gwT (tb3 (List.mem_of_getElem? (i := 77) rfl)) rfl
theorem wd_558 : (Jvm.Cond.instanceMethod ({ cls := "SinLenses", name := "end", desc := "(I)I" } : Jvm.MethodName)) ∈ gw := gwT (tb3 (List.mem_of_getElem? (i := 78) rfl)) rfl
theorem wd_559 : (Jvm.Cond.selects "SinLenses" ({ cls := "SinLenses", name := "end", desc := "(I)I" } : Jvm.MethodName) ({ cls := "SinLenses", name := "end", desc := "(I)I" } : Jvm.MethodName)) ∈ gw := gwT (tb3 (List.mem_of_getElem? (i := 79) rfl)) rfl
theorem wd_560 : (Jvm.Cond.code ({ cls := "SinLenses", name := "end", desc := "(I)I" } : Jvm.MethodName) prog_1_method_10_code (2 : Nat) (Option.some Jvm.ClassFile.FieldType.int)) ∈ gw := gwT (tb3 (List.mem_of_getElem? (i := 80) rfl)) rfl
theorem wd_561 : (Jvm.Cond.methodLink "SinLensesLaw" (54 : Nat) ({ cls := "SinLenses", name := "row", desc := "()I" } : Jvm.MethodName)) ∈ gw := gwT (tb3 (List.mem_of_getElem? (i := 81) rfl)) rfl
theorem wd_562 : (Jvm.Cond.instanceMethod ({ cls := "SinLenses", name := "row", desc := "()I" } : Jvm.MethodName)) ∈ gw := gwT (tb3 (List.mem_of_getElem? (i := 82) rfl)) rfl
theorem wd_563 : (Jvm.Cond.selects "SinLenses" ({ cls := "SinLenses", name := "row", desc := "()I" } : Jvm.MethodName) ({ cls := "SinLenses", name := "row", desc := "()I" } : Jvm.MethodName)) ∈ gw := gwT (tb3 (List.mem_of_getElem? (i := 83) rfl)) rfl
theorem wd_564 : (Jvm.Cond.code ({ cls := "SinLenses", name := "row", desc := "()I" } : Jvm.MethodName) prog_1_method_11_code (4 : Nat) (Option.some Jvm.ClassFile.FieldType.int)) ∈ gw := gwT (tb3 (List.mem_of_getElem? (i := 84) rfl)) rfl
theorem wn_565 : (Jvm.Cond.methodLinkNest "SinLenses" (174 : Nat) ({ cls := "SinLenses$Reader", name := "hasSinsAt", desc := "(I)Z" } : Jvm.MethodName) "SinLenses") ∈ tables_1 := tb3 (List.mem_of_getElem? (i := 85) rfl)
theorem wd_567 : (Jvm.Cond.instanceMethod ({ cls := "SinLenses$Reader", name := "hasSinsAt", desc := "(I)Z" } : Jvm.MethodName)) ∈ gw := gwT (tb3 (List.mem_of_getElem? (i := 87) rfl)) rfl
theorem wd_568 : (Jvm.Cond.code ({ cls := "SinLenses$Reader", name := "hasSinsAt", desc := "(I)Z" } : Jvm.MethodName) prog_8_method_5_code (4 : Nat) (Option.some Jvm.ClassFile.FieldType.boolean)) ∈ gw := gwT (tb3 (List.mem_of_getElem? (i := 88) rfl)) rfl
theorem wd_569 : (Jvm.Cond.methodLink "SinLenses$Reader" (40 : Nat) ({ cls := "SinLenses$Reader", name := "byteAt", desc := "(I)I" } : Jvm.MethodName)) ∈ gw := gwT (tb3 (List.mem_of_getElem? (i := 89) rfl)) rfl
theorem wd_571 : (Jvm.Cond.instanceMethod ({ cls := "SinLenses$Reader", name := "byteAt", desc := "(I)I" } : Jvm.MethodName)) ∈ gw := gwT (tb3 (List.mem_of_getElem? (i := 91) rfl)) rfl
theorem wd_572 : (Jvm.Cond.code ({ cls := "SinLenses$Reader", name := "byteAt", desc := "(I)I" } : Jvm.MethodName) prog_8_method_4_code (2 : Nat) (Option.some Jvm.ClassFile.FieldType.int)) ∈ gw := gwT (tb3 (List.mem_of_getElem? (i := 92) rfl)) rfl
theorem wd_573 : (Jvm.Cond.methodLink "SinLenses" (177 : Nat) ({ cls := "SinLenses", name := "addSinner", desc := "(I)V" } : Jvm.MethodName)) ∈ gw := gwT (tb3 (List.mem_of_getElem? (i := 93) rfl)) rfl
theorem wd_575 : (Jvm.Cond.instanceMethod ({ cls := "SinLenses", name := "addSinner", desc := "(I)V" } : Jvm.MethodName)) ∈ gw := gwT (tb3 (List.mem_of_getElem? (i := 95) rfl)) rfl
theorem wd_576 : (Jvm.Cond.code ({ cls := "SinLenses", name := "addSinner", desc := "(I)V" } : Jvm.MethodName) prog_1_method_12_code (4 : Nat) (Option.none : Option Jvm.ClassFile.FieldType)) ∈ gw := gwT (tb3 (List.mem_of_getElem? (i := 96) rfl)) rfl
theorem wn_577 : (Jvm.Cond.methodLinkNest "SinLenses" (183 : Nat) ({ cls := "SinLenses$Reader", name := "byteAt", desc := "(I)I" } : Jvm.MethodName) "SinLenses") ∈ tables_1 := tb3 (List.mem_of_getElem? (i := 97) rfl)
theorem wn_578 : (Jvm.Cond.methodLinkNest "SinLenses" (186 : Nat) ({ cls := "SinLenses$Parish", name := "setSin", desc := "(III)V" } : Jvm.MethodName) "SinLenses") ∈ tables_1 := tb3 (List.mem_of_getElem? (i := 98) rfl)
theorem wd_579 : (Jvm.Cond.methodLink "SinLensesLaw" (58 : Nat) ({ cls := "SinLenses", name := "smears", desc := "()I" } : Jvm.MethodName)) ∈ gw := gwT (tb3 (List.mem_of_getElem? (i := 99) rfl)) rfl
theorem wd_580 : (Jvm.Cond.instanceMethod ({ cls := "SinLenses", name := "smears", desc := "()I" } : Jvm.MethodName)) ∈ gw := gwT (tb3 (List.mem_of_getElem? (i := 100) rfl)) rfl
theorem wd_581 : (Jvm.Cond.selects "SinLenses" ({ cls := "SinLenses", name := "smears", desc := "()I" } : Jvm.MethodName) ({ cls := "SinLenses", name := "smears", desc := "()I" } : Jvm.MethodName)) ∈ gw := gwT (tb3 (List.mem_of_getElem? (i := 101) rfl)) rfl
theorem wd_582 : (Jvm.Cond.code ({ cls := "SinLenses", name := "smears", desc := "()I" } : Jvm.MethodName) prog_1_method_13_code (1 : Nat) (Option.some Jvm.ClassFile.FieldType.int)) ∈ gw := gwT (tb3 (List.mem_of_getElem? (i := 102) rfl)) rfl
theorem wd_583 : (Jvm.Cond.methodLink "SinLensesLaw" (62 : Nat) ({ cls := "SinLenses", name := "law", desc := "()I" } : Jvm.MethodName)) ∈ gw := gwT (tb3 (List.mem_of_getElem? (i := 103) rfl)) rfl
theorem wd_584 : (Jvm.Cond.instanceMethod ({ cls := "SinLenses", name := "law", desc := "()I" } : Jvm.MethodName)) ∈ gw := gwT (tb3 (List.mem_of_getElem? (i := 104) rfl)) rfl
theorem wd_585 : (Jvm.Cond.selects "SinLenses" ({ cls := "SinLenses", name := "law", desc := "()I" } : Jvm.MethodName) ({ cls := "SinLenses", name := "law", desc := "()I" } : Jvm.MethodName)) ∈ gw := gwT (tb3 (List.mem_of_getElem? (i := 105) rfl)) rfl
theorem wd_586 : (Jvm.Cond.code ({ cls := "SinLenses", name := "law", desc := "()I" } : Jvm.MethodName) prog_1_method_14_code (1 : Nat) (Option.some Jvm.ClassFile.FieldType.int)) ∈ gw := gwT (tb3 (List.mem_of_getElem? (i := 106) rfl)) rfl
theorem wn_587 : (Jvm.Cond.methodLinkNest "SinLenses" (193 : Nat) ({ cls := "SinLenses$Reader", name := "reads", desc := "(Z)Z" } : Jvm.MethodName) "SinLenses") ∈ tables_1 := tb3 (List.mem_of_getElem? (i := 107) rfl)
theorem wd_589 : (Jvm.Cond.instanceMethod ({ cls := "SinLenses$Reader", name := "reads", desc := "(Z)Z" } : Jvm.MethodName)) ∈ gw := gwT (tb3 (List.mem_of_getElem? (i := 109) rfl)) rfl
theorem wd_590 : (Jvm.Cond.code ({ cls := "SinLenses$Reader", name := "reads", desc := "(Z)Z" } : Jvm.MethodName) prog_8_method_6_code (3 : Nat) (Option.some Jvm.ClassFile.FieldType.boolean)) ∈ gw := gwT (tb3 (List.mem_of_getElem? (i := 110) rfl)) rfl
theorem wn_591 : (Jvm.Cond.methodLinkNest "SinLenses$Reader" (54 : Nat) ({ cls := "SinLenses$Text", name := "empty", desc := "()V" } : Jvm.MethodName) "SinLenses") ∈ tables_1 := tb3 (List.mem_of_getElem? (i := 111) rfl)
theorem wd_593 : (Jvm.Cond.instanceMethod ({ cls := "SinLenses$Text", name := "empty", desc := "()V" } : Jvm.MethodName)) ∈ gw := gwT (tb3 (List.mem_of_getElem? (i := 113) rfl)) rfl
theorem wd_594 : (Jvm.Cond.code ({ cls := "SinLenses$Text", name := "empty", desc := "()V" } : Jvm.MethodName) prog_10_method_3_code (1 : Nat) (Option.none : Option Jvm.ClassFile.FieldType)) ∈ gw := gwT (tb3 (List.mem_of_getElem? (i := 114) rfl)) rfl
theorem wd_595 : (Jvm.Cond.methodLink "SinLenses$Reader" (57 : Nat) ({ cls := "SinLenses$Reader", name := "split", desc := "()V" } : Jvm.MethodName)) ∈ gw := gwT (tb3 (List.mem_of_getElem? (i := 115) rfl)) rfl
theorem wd_597 : (Jvm.Cond.instanceMethod ({ cls := "SinLenses$Reader", name := "split", desc := "()V" } : Jvm.MethodName)) ∈ gw := gwT (tb3 (List.mem_of_getElem? (i := 117) rfl)) rfl
theorem wd_598 : (Jvm.Cond.code ({ cls := "SinLenses$Reader", name := "split", desc := "()V" } : Jvm.MethodName) prog_8_method_7_code (5 : Nat) (Option.none : Option Jvm.ClassFile.FieldType)) ∈ gw := gwT (tb3 (List.mem_of_getElem? (i := 118) rfl)) rfl
theorem wd_599 : (Jvm.Cond.methodLink "SinLenses$Reader" (73 : Nat) ({ cls := "SinLenses$Reader", name := "startsToken", desc := "(I)Z" } : Jvm.MethodName)) ∈ gw := gwT (tb3 (List.mem_of_getElem? (i := 119) rfl)) rfl
theorem wd_601 : (Jvm.Cond.instanceMethod ({ cls := "SinLenses$Reader", name := "startsToken", desc := "(I)Z" } : Jvm.MethodName)) ∈ gw := gwT (tb3 (List.mem_of_getElem? (i := 121) rfl)) rfl
theorem wd_602 : (Jvm.Cond.code ({ cls := "SinLenses$Reader", name := "startsToken", desc := "(I)Z" } : Jvm.MethodName) prog_8_method_8_code (3 : Nat) (Option.some Jvm.ClassFile.FieldType.boolean)) ∈ gw := gwT (tb3 (List.mem_of_getElem? (i := 122) rfl)) rfl
theorem wd_603 : (Jvm.Cond.methodLink "SinLenses$Reader" (77 : Nat) ({ cls := "SinLenses$Reader", name := "sortOf", desc := "(I)I" } : Jvm.MethodName)) ∈ gw := gwT (tb3 (List.mem_of_getElem? (i := 123) rfl)) rfl
theorem wd_604 : (Jvm.Cond.static ({ cls := "SinLenses$Reader", name := "sortOf", desc := "(I)I" } : Jvm.MethodName)) ∈ gw := gwT (tb3 (List.mem_of_getElem? (i := 124) rfl)) rfl
theorem wd_605 : (Jvm.Cond.code ({ cls := "SinLenses$Reader", name := "sortOf", desc := "(I)I" } : Jvm.MethodName) prog_8_method_10_code (1 : Nat) (Option.some Jvm.ClassFile.FieldType.int)) ∈ gw := gwT (tb3 (List.mem_of_getElem? (i := 125) rfl)) rfl
theorem wd_606 : (Jvm.Cond.methodLink "SinLenses$Reader" (80 : Nat) ({ cls := "SinLenses$Reader", name := "pastToken", desc := "(I)I" } : Jvm.MethodName)) ∈ gw := gwT (tb3 (List.mem_of_getElem? (i := 126) rfl)) rfl
theorem wd_608 : (Jvm.Cond.instanceMethod ({ cls := "SinLenses$Reader", name := "pastToken", desc := "(I)I" } : Jvm.MethodName)) ∈ gw := gwT (tb3 (List.mem_of_getElem? (i := 128) rfl)) rfl
theorem wd_609 : (Jvm.Cond.code ({ cls := "SinLenses$Reader", name := "pastToken", desc := "(I)I" } : Jvm.MethodName) prog_8_method_9_code (3 : Nat) (Option.some Jvm.ClassFile.FieldType.int)) ∈ gw := gwT (tb3 (List.mem_of_getElem? (i := 129) rfl)) rfl
theorem wd_610 : (Jvm.Cond.methodLink "SinLenses$Reader" (83 : Nat) ({ cls := "SinLenses$Reader", name := "nameOf", desc := "(II)I" } : Jvm.MethodName)) ∈ gw := gwT (tb3 (List.mem_of_getElem? (i := 130) rfl)) rfl
theorem wd_612 : (Jvm.Cond.instanceMethod ({ cls := "SinLenses$Reader", name := "nameOf", desc := "(II)I" } : Jvm.MethodName)) ∈ gw := gwT (tb3 (List.mem_of_getElem? (i := 132) rfl)) rfl
theorem wd_613 : (Jvm.Cond.code ({ cls := "SinLenses$Reader", name := "nameOf", desc := "(II)I" } : Jvm.MethodName) prog_8_method_11_code (6 : Nat) (Option.some Jvm.ClassFile.FieldType.int)) ∈ gw := gwT (tb3 (List.mem_of_getElem? (i := 133) rfl)) rfl
theorem wn_614 : (Jvm.Cond.stringRef "SinLenses$Reader" (90 : Nat) "grinds grows does bars sin grind swap cloth pass if times of with or and not person kind sins sight lit first day mood done latest scene ") ∈ tables_1 := tb3 (List.mem_of_getElem? (i := 134) rfl)
theorem wd_615 : (Jvm.Cond.methodLink "SinLenses$Reader" (92 : Nat) ({ cls := "java/lang/String", name := "length", desc := "()I" } : Jvm.MethodName)) ∈ gw := gwT (tb3 (List.mem_of_getElem? (i := 135) rfl)) rfl
theorem wd_616 : (Jvm.Cond.instanceMethod ({ cls := "java/lang/String", name := "length", desc := "()I" } : Jvm.MethodName)) ∈ gw := gwT (tb3 (List.mem_of_getElem? (i := 136) rfl)) rfl
theorem wd_617 : (Jvm.Cond.selects "java/lang/String" ({ cls := "java/lang/String", name := "length", desc := "()I" } : Jvm.MethodName) ({ cls := "java/lang/String", name := "length", desc := "()I" } : Jvm.MethodName)) ∈ gw := gwT (tb3 (List.mem_of_getElem? (i := 137) rfl)) rfl
theorem wd_618 : (Jvm.Cond.code ({ cls := "java/lang/String", name := "length", desc := "()I" } : Jvm.MethodName) prog_16_method_54_code (1 : Nat) (Option.some Jvm.ClassFile.FieldType.int)) ∈ gw := gwT (tb3 (List.mem_of_getElem? (i := 138) rfl)) rfl
theorem wd_619 : (Jvm.Cond.methodLink "java/lang/String" (335 : Nat) ({ cls := "java/lang/String", name := "coder", desc := "()B" } : Jvm.MethodName)) ∈ gw := gwT (tb3 (List.mem_of_getElem? (i := 139) rfl)) rfl
theorem wd_620 : (Jvm.Cond.instanceMethod ({ cls := "java/lang/String", name := "coder", desc := "()B" } : Jvm.MethodName)) ∈ gw := gwT (tb3 (List.mem_of_getElem? (i := 140) rfl)) rfl
theorem wd_621 : (Jvm.Cond.selects "java/lang/String" ({ cls := "java/lang/String", name := "coder", desc := "()B" } : Jvm.MethodName) ({ cls := "java/lang/String", name := "coder", desc := "()B" } : Jvm.MethodName)) ∈ gw := gwT (tb3 (List.mem_of_getElem? (i := 141) rfl)) rfl
theorem wd_622 : (Jvm.Cond.code ({ cls := "java/lang/String", name := "coder", desc := "()B" } : Jvm.MethodName) prog_16_method_152_code (1 : Nat) (Option.some Jvm.ClassFile.FieldType.byte)) ∈ gw := gwT (tb3 (List.mem_of_getElem? (i := 142) rfl)) rfl
theorem wd_623 : (Jvm.Cond.fieldLink "java/lang/String" (38 : Nat) "java/lang/String" "COMPACT_STRINGS" "Z") ∈ gw := gwT (tb3 (List.mem_of_getElem? (i := 143) rfl)) rfl
theorem wn_624 : (Jvm.Cond.laysStatic "java/lang/String" "COMPACT_STRINGS" "Z") ∈ tables_1 := tb3 (List.mem_of_getElem? (i := 144) rfl)
theorem wd_625 : (Jvm.Cond.methodLink "SinLenses$Reader" (96 : Nat) ({ cls := "java/lang/String", name := "charAt", desc := "(I)C" } : Jvm.MethodName)) ∈ gw := gwT (tb3 (List.mem_of_getElem? (i := 145) rfl)) rfl
theorem wd_626 : (Jvm.Cond.instanceMethod ({ cls := "java/lang/String", name := "charAt", desc := "(I)C" } : Jvm.MethodName)) ∈ gw := gwT (tb3 (List.mem_of_getElem? (i := 146) rfl)) rfl
theorem wd_627 : (Jvm.Cond.selects "java/lang/String" ({ cls := "java/lang/String", name := "charAt", desc := "(I)C" } : Jvm.MethodName) ({ cls := "java/lang/String", name := "charAt", desc := "(I)C" } : Jvm.MethodName)) ∈ gw := gwT (tb3 (List.mem_of_getElem? (i := 147) rfl)) rfl
theorem wd_628 : (Jvm.Cond.code ({ cls := "java/lang/String", name := "charAt", desc := "(I)C" } : Jvm.MethodName) prog_16_method_56_code (2 : Nat) (Option.some Jvm.ClassFile.FieldType.char)) ∈ gw := gwT (tb3 (List.mem_of_getElem? (i := 148) rfl)) rfl
theorem wd_629 : (Jvm.Cond.methodLink "java/lang/String" (492 : Nat) ({ cls := "java/lang/String", name := "isLatin1", desc := "()Z" } : Jvm.MethodName)) ∈ gw := gwT (tb3 (List.mem_of_getElem? (i := 149) rfl)) rfl
theorem wd_630 : (Jvm.Cond.instanceMethod ({ cls := "java/lang/String", name := "isLatin1", desc := "()Z" } : Jvm.MethodName)) ∈ gw := gwT (tb3 (List.mem_of_getElem? (i := 150) rfl)) rfl
theorem wd_631 : (Jvm.Cond.selects "java/lang/String" ({ cls := "java/lang/String", name := "isLatin1", desc := "()Z" } : Jvm.MethodName) ({ cls := "java/lang/String", name := "isLatin1", desc := "()Z" } : Jvm.MethodName)) ∈ gw := gwT (tb3 (List.mem_of_getElem? (i := 151) rfl)) rfl
theorem wd_632 : (Jvm.Cond.code ({ cls := "java/lang/String", name := "isLatin1", desc := "()Z" } : Jvm.MethodName) prog_16_method_154_code (1 : Nat) (Option.some Jvm.ClassFile.FieldType.boolean)) ∈ gw := gwT (tb3 (List.mem_of_getElem? (i := 152) rfl)) rfl
theorem wd_633 : (Jvm.Cond.methodLink "java/lang/String" (495 : Nat) ({ cls := "java/lang/StringLatin1", name := "charAt", desc := "([BI)C" } : Jvm.MethodName)) ∈ gw := gwT (tb3 (List.mem_of_getElem? (i := 153) rfl)) rfl
theorem wd_634 : (Jvm.Cond.static ({ cls := "java/lang/StringLatin1", name := "charAt", desc := "([BI)C" } : Jvm.MethodName)) ∈ gw := gwT (tb3 (List.mem_of_getElem? (i := 154) rfl)) rfl
theorem wd_635 : (Jvm.Cond.code ({ cls := "java/lang/StringLatin1", name := "charAt", desc := "([BI)C" } : Jvm.MethodName) prog_17_method_2_code (2 : Nat) (Option.some Jvm.ClassFile.FieldType.char)) ∈ gw := gwT (tb3 (List.mem_of_getElem? (i := 155) rfl)) rfl
theorem wd_636 : (Jvm.Cond.methodLink "java/lang/StringLatin1" (9 : Nat) ({ cls := "java/lang/String", name := "checkIndex", desc := "(II)V" } : Jvm.MethodName)) ∈ gw := gwT (tb3 (List.mem_of_getElem? (i := 156) rfl)) rfl
theorem wd_637 : (Jvm.Cond.static ({ cls := "java/lang/String", name := "checkIndex", desc := "(II)V" } : Jvm.MethodName)) ∈ gw := gwT (tb3 (List.mem_of_getElem? (i := 157) rfl)) rfl
theorem wd_638 : (Jvm.Cond.code ({ cls := "java/lang/String", name := "checkIndex", desc := "(II)V" } : Jvm.MethodName) prog_16_method_155_code (2 : Nat) (Option.none : Option Jvm.ClassFile.FieldType)) ∈ gw := gwT (tb3 (List.mem_of_getElem? (i := 158) rfl)) rfl
theorem wd_639 : (Jvm.Cond.fieldLink "java/lang/String" (1053 : Nat) "jdk/internal/util/Preconditions" "SIOOBE_FORMATTER" "Ljava/util/function/BiFunction;") ∈ gw := gwT (tb3 (List.mem_of_getElem? (i := 159) rfl)) rfl
theorem wn_640 : (Jvm.Cond.laysStatic "jdk/internal/util/Preconditions" "SIOOBE_FORMATTER" "Ljava/util/function/BiFunction;") ∈ tables_1 := tb3 (List.mem_of_getElem? (i := 160) rfl)
theorem wd_641 : (Jvm.Cond.methodLink "java/lang/String" (1059 : Nat) ({ cls := "jdk/internal/util/Preconditions", name := "checkIndex", desc := "(IILjava/util/function/BiFunction;)I" } : Jvm.MethodName)) ∈ gw := gwT (tb3 (List.mem_of_getElem? (i := 161) rfl)) rfl
theorem wd_642 : (Jvm.Cond.static ({ cls := "jdk/internal/util/Preconditions", name := "checkIndex", desc := "(IILjava/util/function/BiFunction;)I" } : Jvm.MethodName)) ∈ gw := gwT (tb3 (List.mem_of_getElem? (i := 162) rfl)) rfl
theorem wd_643 : (Jvm.Cond.code ({ cls := "jdk/internal/util/Preconditions", name := "checkIndex", desc := "(IILjava/util/function/BiFunction;)I" } : Jvm.MethodName) prog_20_method_11_code (3 : Nat) (Option.some Jvm.ClassFile.FieldType.int)) ∈ gw := gwT (tb3 (List.mem_of_getElem? (i := 163) rfl)) rfl
theorem wd_644 : (Jvm.Cond.methodLink "java/lang/String" (498 : Nat) ({ cls := "java/lang/StringUTF16", name := "charAt", desc := "([BI)C" } : Jvm.MethodName)) ∈ gw := gwT (tb3 (List.mem_of_getElem? (i := 164) rfl)) rfl
theorem wd_645 : (Jvm.Cond.static ({ cls := "java/lang/StringUTF16", name := "charAt", desc := "([BI)C" } : Jvm.MethodName)) ∈ gw := gwT (tb3 (List.mem_of_getElem? (i := 165) rfl)) rfl
theorem wd_646 : (Jvm.Cond.code ({ cls := "java/lang/StringUTF16", name := "charAt", desc := "([BI)C" } : Jvm.MethodName) prog_18_method_83_code (2 : Nat) (Option.some Jvm.ClassFile.FieldType.char)) ∈ gw := gwT (tb3 (List.mem_of_getElem? (i := 166) rfl)) rfl
theorem wd_647 : (Jvm.Cond.methodLink "java/lang/StringUTF16" (67 : Nat) ({ cls := "java/lang/StringUTF16", name := "checkIndex", desc := "(I[B)V" } : Jvm.MethodName)) ∈ gw := gwT (tb3 (List.mem_of_getElem? (i := 167) rfl)) rfl
theorem wd_648 : (Jvm.Cond.static ({ cls := "java/lang/StringUTF16", name := "checkIndex", desc := "(I[B)V" } : Jvm.MethodName)) ∈ gw := gwT (tb3 (List.mem_of_getElem? (i := 168) rfl)) rfl
theorem wd_649 : (Jvm.Cond.code ({ cls := "java/lang/StringUTF16", name := "checkIndex", desc := "(I[B)V" } : Jvm.MethodName) prog_18_method_91_code (2 : Nat) (Option.none : Option Jvm.ClassFile.FieldType)) ∈ gw := gwT (tb3 (List.mem_of_getElem? (i := 169) rfl)) rfl
theorem wd_650 : (Jvm.Cond.methodLink "java/lang/StringUTF16" (48 : Nat) ({ cls := "java/lang/StringUTF16", name := "length", desc := "([B)I" } : Jvm.MethodName)) ∈ gw := gwT (tb3 (List.mem_of_getElem? (i := 170) rfl)) rfl
theorem wd_651 : (Jvm.Cond.static ({ cls := "java/lang/StringUTF16", name := "length", desc := "([B)I" } : Jvm.MethodName)) ∈ gw := gwT (tb3 (List.mem_of_getElem? (i := 171) rfl)) rfl
theorem wd_652 : (Jvm.Cond.code ({ cls := "java/lang/StringUTF16", name := "length", desc := "([B)I" } : Jvm.MethodName) prog_18_method_6_code (1 : Nat) (Option.some Jvm.ClassFile.FieldType.int)) ∈ gw := gwT (tb3 (List.mem_of_getElem? (i := 172) rfl)) rfl
theorem wd_653 : (Jvm.Cond.methodLink "java/lang/StringUTF16" (414 : Nat) ({ cls := "java/lang/String", name := "checkIndex", desc := "(II)V" } : Jvm.MethodName)) ∈ gw := gwT (tb3 (List.mem_of_getElem? (i := 173) rfl)) rfl
theorem wd_654 : (Jvm.Cond.methodLink "java/lang/StringUTF16" (71 : Nat) ({ cls := "java/lang/StringUTF16", name := "getChar", desc := "([BI)C" } : Jvm.MethodName)) ∈ gw := gwT (tb3 (List.mem_of_getElem? (i := 174) rfl)) rfl
theorem wd_655 : (Jvm.Cond.static ({ cls := "java/lang/StringUTF16", name := "getChar", desc := "([BI)C" } : Jvm.MethodName)) ∈ gw := gwT (tb3 (List.mem_of_getElem? (i := 175) rfl)) rfl
theorem wd_656 : (Jvm.Cond.code ({ cls := "java/lang/StringUTF16", name := "getChar", desc := "([BI)C" } : Jvm.MethodName) prog_18_method_5_code (2 : Nat) (Option.some Jvm.ClassFile.FieldType.char)) ∈ gw := gwT (tb3 (List.mem_of_getElem? (i := 176) rfl)) rfl
theorem wd_657 : (Jvm.Cond.fieldLink "java/lang/StringUTF16" (44 : Nat) "java/lang/StringUTF16" "$assertionsDisabled" "Z") ∈ gw := gwT (tb3 (List.mem_of_getElem? (i := 177) rfl)) rfl
theorem wn_658 : (Jvm.Cond.laysStatic "java/lang/StringUTF16" "$assertionsDisabled" "Z") ∈ tables_1 := tb3 (List.mem_of_getElem? (i := 178) rfl)
theorem wd_659 : (Jvm.Cond.fieldLink "java/lang/StringUTF16" (59 : Nat) "java/lang/StringUTF16" "HI_BYTE_SHIFT" "I") ∈ gw := gwT (tb3 (List.mem_of_getElem? (i := 179) rfl)) rfl
theorem wn_660 : (Jvm.Cond.laysStatic "java/lang/StringUTF16" "HI_BYTE_SHIFT" "I") ∈ tables_1 := tb3 (List.mem_of_getElem? (i := 180) rfl)
theorem wd_661 : (Jvm.Cond.fieldLink "java/lang/StringUTF16" (63 : Nat) "java/lang/StringUTF16" "LO_BYTE_SHIFT" "I") ∈ gw := gwT (tb3 (List.mem_of_getElem? (i := 181) rfl)) rfl
theorem wn_662 : (Jvm.Cond.laysStatic "java/lang/StringUTF16" "LO_BYTE_SHIFT" "I") ∈ tables_1 := tb3 (List.mem_of_getElem? (i := 182) rfl)
theorem wd_663 : (Jvm.Cond.methodLink "SinLenses$Reader" (100 : Nat) ({ cls := "SinLenses$Reader", name := "isSame", desc := "(III)Z" } : Jvm.MethodName)) ∈ gw := gwT (tb3 (List.mem_of_getElem? (i := 183) rfl)) rfl
theorem wd_665 : (Jvm.Cond.instanceMethod ({ cls := "SinLenses$Reader", name := "isSame", desc := "(III)Z" } : Jvm.MethodName)) ∈ gw := gwT (tb3 (List.mem_of_getElem? (i := 185) rfl)) rfl
theorem wd_666 : (Jvm.Cond.code ({ cls := "SinLenses$Reader", name := "isSame", desc := "(III)Z" } : Jvm.MethodName) prog_8_method_12_code (5 : Nat) (Option.some Jvm.ClassFile.FieldType.boolean)) ∈ gw := gwT (tb3 (List.mem_of_getElem? (i := 186) rfl)) rfl
theorem wd_667 : (Jvm.Cond.methodLink "SinLenses$Reader" (87 : Nat) ({ cls := "SinLenses$Reader", name := "numberOf", desc := "(II)I" } : Jvm.MethodName)) ∈ gw := gwT (tb3 (List.mem_of_getElem? (i := 187) rfl)) rfl
theorem wd_669 : (Jvm.Cond.instanceMethod ({ cls := "SinLenses$Reader", name := "numberOf", desc := "(II)I" } : Jvm.MethodName)) ∈ gw := gwT (tb3 (List.mem_of_getElem? (i := 189) rfl)) rfl
theorem wd_670 : (Jvm.Cond.code ({ cls := "SinLenses$Reader", name := "numberOf", desc := "(II)I" } : Jvm.MethodName) prog_8_method_13_code (5 : Nat) (Option.some Jvm.ClassFile.FieldType.int)) ∈ gw := gwT (tb3 (List.mem_of_getElem? (i := 190) rfl)) rfl
theorem wd_671 : (Jvm.Cond.methodLink "SinLenses$Reader" (104 : Nat) ({ cls := "java/lang/Math", name := "min", desc := "(II)I" } : Jvm.MethodName)) ∈ gw := gwT (tb3 (List.mem_of_getElem? (i := 191) rfl)) rfl
theorem wd_672 : (Jvm.Cond.methodLink "SinLenses$Reader" (60 : Nat) ({ cls := "SinLenses$Reader", name := "clause", desc := "()V" } : Jvm.MethodName)) ∈ gw := gwT (tb3 (List.mem_of_getElem? (i := 192) rfl)) rfl
theorem wd_674 : (Jvm.Cond.instanceMethod ({ cls := "SinLenses$Reader", name := "clause", desc := "()V" } : Jvm.MethodName)) ∈ gw := gwT (tb3 (List.mem_of_getElem? (i := 194) rfl)) rfl
theorem wd_675 : (Jvm.Cond.code ({ cls := "SinLenses$Reader", name := "clause", desc := "()V" } : Jvm.MethodName) prog_8_method_18_code (2 : Nat) (Option.none : Option Jvm.ClassFile.FieldType)) ∈ gw := gwT (tb3 (List.mem_of_getElem? (i := 195) rfl)) rfl
theorem wd_676 : (Jvm.Cond.methodLink "SinLenses$Reader" (63 : Nat) ({ cls := "SinLenses$Reader", name := "here", desc := "()I" } : Jvm.MethodName)) ∈ gw := gwT (tb3 (List.mem_of_getElem? (i := 196) rfl)) rfl
theorem wd_678 : (Jvm.Cond.instanceMethod ({ cls := "SinLenses$Reader", name := "here", desc := "()I" } : Jvm.MethodName)) ∈ gw := gwT (tb3 (List.mem_of_getElem? (i := 198) rfl)) rfl
theorem wd_679 : (Jvm.Cond.code ({ cls := "SinLenses$Reader", name := "here", desc := "()I" } : Jvm.MethodName) prog_8_method_14_code (1 : Nat) (Option.some Jvm.ClassFile.FieldType.int)) ∈ gw := gwT (tb3 (List.mem_of_getElem? (i := 199) rfl)) rfl
theorem wd_680 : (Jvm.Cond.methodLink "SinLenses$Reader" (67 : Nat) ({ cls := "SinLenses$Reader", name := "fail", desc := "()V" } : Jvm.MethodName)) ∈ gw := gwT (tb3 (List.mem_of_getElem? (i := 200) rfl)) rfl
theorem wd_682 : (Jvm.Cond.instanceMethod ({ cls := "SinLenses$Reader", name := "fail", desc := "()V" } : Jvm.MethodName)) ∈ gw := gwT (tb3 (List.mem_of_getElem? (i := 202) rfl)) rfl
theorem wd_683 : (Jvm.Cond.code ({ cls := "SinLenses$Reader", name := "fail", desc := "()V" } : Jvm.MethodName) prog_8_method_16_code (1 : Nat) (Option.none : Option Jvm.ClassFile.FieldType)) ∈ gw := gwT (tb3 (List.mem_of_getElem? (i := 203) rfl)) rfl
theorem wn_684 : (Jvm.Cond.methodLinkNest "SinLenses$Reader" (109 : Nat) ({ cls := "SinLenses$Text", name := "open", desc := "(I)V" } : Jvm.MethodName) "SinLenses") ∈ tables_1 := tb3 (List.mem_of_getElem? (i := 204) rfl)
theorem wd_686 : (Jvm.Cond.instanceMethod ({ cls := "SinLenses$Text", name := "open", desc := "(I)V" } : Jvm.MethodName)) ∈ gw := gwT (tb3 (List.mem_of_getElem? (i := 206) rfl)) rfl
theorem wd_687 : (Jvm.Cond.code ({ cls := "SinLenses$Text", name := "open", desc := "(I)V" } : Jvm.MethodName) prog_10_method_4_code (2 : Nat) (Option.none : Option Jvm.ClassFile.FieldType)) ∈ gw := gwT (tb3 (List.mem_of_getElem? (i := 207) rfl)) rfl
theorem wd_688 : (Jvm.Cond.methodLink "SinLenses$Text" (47 : Nat) ({ cls := "SinLenses$Text", name := "mark", desc := "(I)V" } : Jvm.MethodName)) ∈ gw := gwT (tb3 (List.mem_of_getElem? (i := 208) rfl)) rfl
theorem wd_690 : (Jvm.Cond.instanceMethod ({ cls := "SinLenses$Text", name := "mark", desc := "(I)V" } : Jvm.MethodName)) ∈ gw := gwT (tb3 (List.mem_of_getElem? (i := 210) rfl)) rfl
theorem wd_691 : (Jvm.Cond.code ({ cls := "SinLenses$Text", name := "mark", desc := "(I)V" } : Jvm.MethodName) prog_10_method_5_code (3 : Nat) (Option.none : Option Jvm.ClassFile.FieldType)) ∈ gw := gwT (tb3 (List.mem_of_getElem? (i := 211) rfl)) rfl
theorem wd_692 : (Jvm.Cond.methodLink "SinLenses$Reader" (113 : Nat) ({ cls := "SinLenses$Reader", name := "sum", desc := "(I)V" } : Jvm.MethodName)) ∈ gw := gwT (tb3 (List.mem_of_getElem? (i := 212) rfl)) rfl
theorem wd_694 : (Jvm.Cond.instanceMethod ({ cls := "SinLenses$Reader", name := "sum", desc := "(I)V" } : Jvm.MethodName)) ∈ gw := gwT (tb3 (List.mem_of_getElem? (i := 214) rfl)) rfl
theorem wd_695 : (Jvm.Cond.code ({ cls := "SinLenses$Reader", name := "sum", desc := "(I)V" } : Jvm.MethodName) prog_8_method_24_code (4 : Nat) (Option.none : Option Jvm.ClassFile.FieldType)) ∈ gw := gwT (tb3 (List.mem_of_getElem? (i := 215) rfl)) rfl
theorem wd_696 : (Jvm.Cond.methodLink "SinLenses$Reader" (152 : Nat) ({ cls := "SinLenses$Reader", name := "term", desc := "(I)V" } : Jvm.MethodName)) ∈ gw := gwT (tb3 (List.mem_of_getElem? (i := 216) rfl)) rfl
theorem wd_698 : (Jvm.Cond.instanceMethod ({ cls := "SinLenses$Reader", name := "term", desc := "(I)V" } : Jvm.MethodName)) ∈ gw := gwT (tb3 (List.mem_of_getElem? (i := 218) rfl)) rfl
theorem wd_699 : (Jvm.Cond.code ({ cls := "SinLenses$Reader", name := "term", desc := "(I)V" } : Jvm.MethodName) prog_8_method_25_code (4 : Nat) (Option.none : Option Jvm.ClassFile.FieldType)) ∈ gw := gwT (tb3 (List.mem_of_getElem? (i := 219) rfl)) rfl
theorem wd_700 : (Jvm.Cond.methodLink "SinLenses$Reader" (155 : Nat) ({ cls := "SinLenses$Reader", name := "part", desc := "(I)V" } : Jvm.MethodName)) ∈ gw := gwT (tb3 (List.mem_of_getElem? (i := 220) rfl)) rfl
theorem wd_702 : (Jvm.Cond.instanceMethod ({ cls := "SinLenses$Reader", name := "part", desc := "(I)V" } : Jvm.MethodName)) ∈ gw := gwT (tb3 (List.mem_of_getElem? (i := 222) rfl)) rfl
theorem wd_703 : (Jvm.Cond.code ({ cls := "SinLenses$Reader", name := "part", desc := "(I)V" } : Jvm.MethodName) prog_8_method_27_code (2 : Nat) (Option.none : Option Jvm.ClassFile.FieldType)) ∈ gw := gwT (tb3 (List.mem_of_getElem? (i := 223) rfl)) rfl
theorem wd_704 : (Jvm.Cond.methodLink "SinLenses$Reader" (158 : Nat) ({ cls := "SinLenses$Reader", name := "simplePart", desc := "()V" } : Jvm.MethodName)) ∈ gw := gwT (tb3 (List.mem_of_getElem? (i := 224) rfl)) rfl
theorem wd_706 : (Jvm.Cond.instanceMethod ({ cls := "SinLenses$Reader", name := "simplePart", desc := "()V" } : Jvm.MethodName)) ∈ gw := gwT (tb3 (List.mem_of_getElem? (i := 226) rfl)) rfl
theorem wd_707 : (Jvm.Cond.code ({ cls := "SinLenses$Reader", name := "simplePart", desc := "()V" } : Jvm.MethodName) prog_8_method_28_code (4 : Nat) (Option.none : Option Jvm.ClassFile.FieldType)) ∈ gw := gwT (tb3 (List.mem_of_getElem? (i := 227) rfl)) rfl
theorem wd_708 : (Jvm.Cond.methodLink "SinLenses$Reader" (128 : Nat) ({ cls := "SinLenses$Reader", name := "numberHere", desc := "()I" } : Jvm.MethodName)) ∈ gw := gwT (tb3 (List.mem_of_getElem? (i := 228) rfl)) rfl
theorem wd_710 : (Jvm.Cond.instanceMethod ({ cls := "SinLenses$Reader", name := "numberHere", desc := "()I" } : Jvm.MethodName)) ∈ gw := gwT (tb3 (List.mem_of_getElem? (i := 230) rfl)) rfl
theorem wd_711 : (Jvm.Cond.code ({ cls := "SinLenses$Reader", name := "numberHere", desc := "()I" } : Jvm.MethodName) prog_8_method_15_code (1 : Nat) (Option.some Jvm.ClassFile.FieldType.int)) ∈ gw := gwT (tb3 (List.mem_of_getElem? (i := 231) rfl)) rfl
theorem wd_712 : (Jvm.Cond.methodLink "SinLenses$Reader" (161 : Nat) ({ cls := "SinLenses$Reader", name := "lawWord", desc := "(I)I" } : Jvm.MethodName)) ∈ gw := gwT (tb3 (List.mem_of_getElem? (i := 232) rfl)) rfl
theorem wd_713 : (Jvm.Cond.static ({ cls := "SinLenses$Reader", name := "lawWord", desc := "(I)I" } : Jvm.MethodName)) ∈ gw := gwT (tb3 (List.mem_of_getElem? (i := 233) rfl)) rfl
theorem wd_714 : (Jvm.Cond.code ({ cls := "SinLenses$Reader", name := "lawWord", desc := "(I)I" } : Jvm.MethodName) prog_8_method_29_code (1 : Nat) (Option.some Jvm.ClassFile.FieldType.int)) ∈ gw := gwT (tb3 (List.mem_of_getElem? (i := 234) rfl)) rfl
theorem wd_715 : (Jvm.Cond.methodLink "SinLenses$Reader" (164 : Nat) ({ cls := "SinLenses$Reader", name := "orderWord", desc := "(I)I" } : Jvm.MethodName)) ∈ gw := gwT (tb3 (List.mem_of_getElem? (i := 235) rfl)) rfl
theorem wd_716 : (Jvm.Cond.static ({ cls := "SinLenses$Reader", name := "orderWord", desc := "(I)I" } : Jvm.MethodName)) ∈ gw := gwT (tb3 (List.mem_of_getElem? (i := 236) rfl)) rfl
theorem wd_717 : (Jvm.Cond.code ({ cls := "SinLenses$Reader", name := "orderWord", desc := "(I)I" } : Jvm.MethodName) prog_8_method_30_code (1 : Nat) (Option.some Jvm.ClassFile.FieldType.int)) ∈ gw := gwT (tb3 (List.mem_of_getElem? (i := 237) rfl)) rfl
theorem wn_718 : (Jvm.Cond.methodLinkNest "SinLenses$Reader" (137 : Nat) ({ cls := "SinLenses$Text", name := "put", desc := "(II)I" } : Jvm.MethodName) "SinLenses") ∈ tables_1 := tb3 (List.mem_of_getElem? (i := 238) rfl)
theorem wd_720 : (Jvm.Cond.instanceMethod ({ cls := "SinLenses$Text", name := "put", desc := "(II)I" } : Jvm.MethodName)) ∈ gw := gwT (tb4 (List.mem_of_getElem? (i := 0) rfl)) rfl
theorem wd_721 : (Jvm.Cond.code ({ cls := "SinLenses$Text", name := "put", desc := "(II)I" } : Jvm.MethodName) prog_10_method_7_code (5 : Nat) (Option.some Jvm.ClassFile.FieldType.int)) ∈ gw := gwT (tb4 (List.mem_of_getElem? (i := 1) rfl)) rfl
theorem wd_722 : (Jvm.Cond.methodLink "SinLenses$Reader" (125 : Nat) ({ cls := "SinLenses$Reader", name := "expect", desc := "(I)V" } : Jvm.MethodName)) ∈ gw := gwT (tb4 (List.mem_of_getElem? (i := 2) rfl)) rfl
theorem wd_724 : (Jvm.Cond.instanceMethod ({ cls := "SinLenses$Reader", name := "expect", desc := "(I)V" } : Jvm.MethodName)) ∈ gw := gwT (tb4 (List.mem_of_getElem? (i := 4) rfl)) rfl
theorem wd_725 : (Jvm.Cond.code ({ cls := "SinLenses$Reader", name := "expect", desc := "(I)V" } : Jvm.MethodName) prog_8_method_17_code (2 : Nat) (Option.none : Option Jvm.ClassFile.FieldType)) ∈ gw := gwT (tb4 (List.mem_of_getElem? (i := 5) rfl)) rfl
theorem wd_726 : (Jvm.Cond.methodLink "SinLenses$Reader" (149 : Nat) ({ cls := "SinLenses$Reader", name := "stepOf", desc := "(I)I" } : Jvm.MethodName)) ∈ gw := gwT (tb4 (List.mem_of_getElem? (i := 6) rfl)) rfl
theorem wd_727 : (Jvm.Cond.static ({ cls := "SinLenses$Reader", name := "stepOf", desc := "(I)I" } : Jvm.MethodName)) ∈ gw := gwT (tb4 (List.mem_of_getElem? (i := 7) rfl)) rfl
theorem wd_728 : (Jvm.Cond.code ({ cls := "SinLenses$Reader", name := "stepOf", desc := "(I)I" } : Jvm.MethodName) prog_8_method_26_code (1 : Nat) (Option.some Jvm.ClassFile.FieldType.int)) ∈ gw := gwT (tb4 (List.mem_of_getElem? (i := 8) rfl)) rfl
theorem wn_729 : (Jvm.Cond.methodLinkNest "SinLenses$Reader" (116 : Nat) ({ cls := "SinLenses$Text", name := "mark", desc := "(I)V" } : Jvm.MethodName) "SinLenses") ∈ tables_1 := tb4 (List.mem_of_getElem? (i := 9) rfl)
theorem wd_730 : (Jvm.Cond.methodLink "SinLenses$Reader" (119 : Nat) ({ cls := "SinLenses$Reader", name := "restOfOrder", desc := "(I)V" } : Jvm.MethodName)) ∈ gw := gwT (tb4 (List.mem_of_getElem? (i := 10) rfl)) rfl
theorem wd_732 : (Jvm.Cond.instanceMethod ({ cls := "SinLenses$Reader", name := "restOfOrder", desc := "(I)V" } : Jvm.MethodName)) ∈ gw := gwT (tb4 (List.mem_of_getElem? (i := 12) rfl)) rfl
theorem wd_733 : (Jvm.Cond.code ({ cls := "SinLenses$Reader", name := "restOfOrder", desc := "(I)V" } : Jvm.MethodName) prog_8_method_19_code (3 : Nat) (Option.none : Option Jvm.ClassFile.FieldType)) ∈ gw := gwT (tb4 (List.mem_of_getElem? (i := 13) rfl)) rfl
theorem wn_734 : (Jvm.Cond.methodLinkNest "SinLenses$Reader" (131 : Nat) ({ cls := "SinLenses$Text", name := "repeat", desc := "(I)V" } : Jvm.MethodName) "SinLenses") ∈ tables_1 := tb4 (List.mem_of_getElem? (i := 14) rfl)
theorem wd_736 : (Jvm.Cond.instanceMethod ({ cls := "SinLenses$Text", name := "repeat", desc := "(I)V" } : Jvm.MethodName)) ∈ gw := gwT (tb4 (List.mem_of_getElem? (i := 16) rfl)) rfl
theorem wd_737 : (Jvm.Cond.code ({ cls := "SinLenses$Text", name := "repeat", desc := "(I)V" } : Jvm.MethodName) prog_10_method_6_code (3 : Nat) (Option.none : Option Jvm.ClassFile.FieldType)) ∈ gw := gwT (tb4 (List.mem_of_getElem? (i := 17) rfl)) rfl
theorem wd_738 : (Jvm.Cond.methodLink "SinLenses$Reader" (122 : Nat) ({ cls := "SinLenses$Reader", name := "test", desc := "(I)V" } : Jvm.MethodName)) ∈ gw := gwT (tb4 (List.mem_of_getElem? (i := 18) rfl)) rfl
theorem wd_740 : (Jvm.Cond.instanceMethod ({ cls := "SinLenses$Reader", name := "test", desc := "(I)V" } : Jvm.MethodName)) ∈ gw := gwT (tb4 (List.mem_of_getElem? (i := 20) rfl)) rfl
theorem wd_741 : (Jvm.Cond.code ({ cls := "SinLenses$Reader", name := "test", desc := "(I)V" } : Jvm.MethodName) prog_8_method_20_code (4 : Nat) (Option.none : Option Jvm.ClassFile.FieldType)) ∈ gw := gwT (tb4 (List.mem_of_getElem? (i := 21) rfl)) rfl
theorem wd_742 : (Jvm.Cond.methodLink "SinLenses$Reader" (134 : Nat) ({ cls := "SinLenses$Reader", name := "both", desc := "(I)V" } : Jvm.MethodName)) ∈ gw := gwT (tb4 (List.mem_of_getElem? (i := 22) rfl)) rfl
theorem wd_744 : (Jvm.Cond.instanceMethod ({ cls := "SinLenses$Reader", name := "both", desc := "(I)V" } : Jvm.MethodName)) ∈ gw := gwT (tb4 (List.mem_of_getElem? (i := 24) rfl)) rfl
theorem wd_745 : (Jvm.Cond.code ({ cls := "SinLenses$Reader", name := "both", desc := "(I)V" } : Jvm.MethodName) prog_8_method_21_code (4 : Nat) (Option.none : Option Jvm.ClassFile.FieldType)) ∈ gw := gwT (tb4 (List.mem_of_getElem? (i := 25) rfl)) rfl
theorem wd_746 : (Jvm.Cond.methodLink "SinLenses$Reader" (143 : Nat) ({ cls := "SinLenses$Reader", name := "plain", desc := "(I)V" } : Jvm.MethodName)) ∈ gw := gwT (tb4 (List.mem_of_getElem? (i := 26) rfl)) rfl
theorem wd_748 : (Jvm.Cond.instanceMethod ({ cls := "SinLenses$Reader", name := "plain", desc := "(I)V" } : Jvm.MethodName)) ∈ gw := gwT (tb4 (List.mem_of_getElem? (i := 28) rfl)) rfl
theorem wd_749 : (Jvm.Cond.code ({ cls := "SinLenses$Reader", name := "plain", desc := "(I)V" } : Jvm.MethodName) prog_8_method_22_code (4 : Nat) (Option.none : Option Jvm.ClassFile.FieldType)) ∈ gw := gwT (tb4 (List.mem_of_getElem? (i := 29) rfl)) rfl
theorem wd_750 : (Jvm.Cond.methodLink "SinLenses$Reader" (146 : Nat) ({ cls := "SinLenses$Reader", name := "comparison", desc := "(I)V" } : Jvm.MethodName)) ∈ gw := gwT (tb4 (List.mem_of_getElem? (i := 30) rfl)) rfl
theorem wd_752 : (Jvm.Cond.instanceMethod ({ cls := "SinLenses$Reader", name := "comparison", desc := "(I)V" } : Jvm.MethodName)) ∈ gw := gwT (tb4 (List.mem_of_getElem? (i := 32) rfl)) rfl
theorem wd_753 : (Jvm.Cond.code ({ cls := "SinLenses$Reader", name := "comparison", desc := "(I)V" } : Jvm.MethodName) prog_8_method_23_code (3 : Nat) (Option.none : Option Jvm.ClassFile.FieldType)) ∈ gw := gwT (tb4 (List.mem_of_getElem? (i := 33) rfl)) rfl
theorem wn_754 : (Jvm.Cond.methodLinkNest "SinLenses$Reader" (140 : Nat) ({ cls := "SinLenses$Text", name := "aim", desc := "(I)V" } : Jvm.MethodName) "SinLenses") ∈ tables_1 := tb4 (List.mem_of_getElem? (i := 34) rfl)
theorem wd_756 : (Jvm.Cond.instanceMethod ({ cls := "SinLenses$Text", name := "aim", desc := "(I)V" } : Jvm.MethodName)) ∈ gw := gwT (tb4 (List.mem_of_getElem? (i := 36) rfl)) rfl
theorem wd_757 : (Jvm.Cond.code ({ cls := "SinLenses$Text", name := "aim", desc := "(I)V" } : Jvm.MethodName) prog_10_method_8_code (2 : Nat) (Option.none : Option Jvm.ClassFile.FieldType)) ∈ gw := gwT (tb4 (List.mem_of_getElem? (i := 37) rfl)) rfl
theorem wn_758 : (Jvm.Cond.methodLinkNest "SinLenses" (201 : Nat) ({ cls := "SinLenses$Text", name := "copy", desc := "()LSinLenses$Text;" } : Jvm.MethodName) "SinLenses") ∈ tables_1 := tb4 (List.mem_of_getElem? (i := 38) rfl)
theorem wd_760 : (Jvm.Cond.instanceMethod ({ cls := "SinLenses$Text", name := "copy", desc := "()LSinLenses$Text;" } : Jvm.MethodName)) ∈ gw := gwT (tb4 (List.mem_of_getElem? (i := 40) rfl)) rfl
theorem wd_761 : (Jvm.Cond.code ({ cls := "SinLenses$Text", name := "copy", desc := "()LSinLenses$Text;" } : Jvm.MethodName) prog_10_method_2_code (2 : Nat) (Option.some (Jvm.ClassFile.FieldType.object "SinLenses$Text"))) ∈ gw := gwT (tb4 (List.mem_of_getElem? (i := 41) rfl)) rfl
theorem wd_762 : (Jvm.Cond.classLink "SinLenses$Text" (14 : Nat) "SinLenses$Text") ∈ gw := gwT (tb4 (List.mem_of_getElem? (i := 42) rfl)) rfl
theorem wd_763 : (Jvm.Cond.methodLink "SinLenses$Text" (38 : Nat) ({ cls := "SinLenses$Text", name := "<init>", desc := "(II)V" } : Jvm.MethodName)) ∈ gw := gwT (tb4 (List.mem_of_getElem? (i := 43) rfl)) rfl
theorem wd_764 : (Jvm.Cond.methodLink "SinLenses$Text" (41 : Nat) ({ cls := "java/lang/System", name := "arraycopy", desc := "(Ljava/lang/Object;ILjava/lang/Object;II)V" } : Jvm.MethodName)) ∈ gw := gwT (tb4 (List.mem_of_getElem? (i := 44) rfl)) rfl
theorem wd_765 : (Jvm.Cond.static ({ cls := "java/lang/System", name := "arraycopy", desc := "(Ljava/lang/Object;ILjava/lang/Object;II)V" } : Jvm.MethodName)) ∈ gw := gwT (tb4 (List.mem_of_getElem? (i := 45) rfl)) rfl
theorem wd_766 : (Jvm.Cond.native ({ cls := "java/lang/System", name := "arraycopy", desc := "(Ljava/lang/Object;ILjava/lang/Object;II)V" } : Jvm.MethodName)) ∈ gw := gwT (tb4 (List.mem_of_getElem? (i := 46) rfl)) rfl
theorem wn_767 : (Jvm.Cond.methodLinkNest "SinLenses" (206 : Nat) ({ cls := "SinLenses$Parish", name := "addLaw", desc := "(LSinLenses$Text;)I" } : Jvm.MethodName) "SinLenses") ∈ tables_1 := tb4 (List.mem_of_getElem? (i := 47) rfl)
theorem wd_769 : (Jvm.Cond.instanceMethod ({ cls := "SinLenses$Parish", name := "addLaw", desc := "(LSinLenses$Text;)I" } : Jvm.MethodName)) ∈ gw := gwT (tb4 (List.mem_of_getElem? (i := 49) rfl)) rfl
theorem wd_770 : (Jvm.Cond.code ({ cls := "SinLenses$Parish", name := "addLaw", desc := "(LSinLenses$Text;)I" } : Jvm.MethodName) prog_7_method_20_code (2 : Nat) (Option.some Jvm.ClassFile.FieldType.int)) ∈ gw := gwT (tb4 (List.mem_of_getElem? (i := 50) rfl)) rfl
theorem wd_771 : (Jvm.Cond.arrayClass Jvm.ClassFile.FieldType.byte) ∈ gw := gwT (tb4 (List.mem_of_getElem? (i := 51) rfl)) rfl
theorem wd_772 : (Jvm.Cond.methodLink "SinLensesLaw" (66 : Nat) ({ cls := "SinLenses", name := "orders", desc := "()I" } : Jvm.MethodName)) ∈ gw := gwT (tb4 (List.mem_of_getElem? (i := 52) rfl)) rfl
theorem wd_773 : (Jvm.Cond.instanceMethod ({ cls := "SinLenses", name := "orders", desc := "()I" } : Jvm.MethodName)) ∈ gw := gwT (tb4 (List.mem_of_getElem? (i := 53) rfl)) rfl
theorem wd_774 : (Jvm.Cond.selects "SinLenses" ({ cls := "SinLenses", name := "orders", desc := "()I" } : Jvm.MethodName) ({ cls := "SinLenses", name := "orders", desc := "()I" } : Jvm.MethodName)) ∈ gw := gwT (tb4 (List.mem_of_getElem? (i := 54) rfl)) rfl
theorem wd_775 : (Jvm.Cond.code ({ cls := "SinLenses", name := "orders", desc := "()I" } : Jvm.MethodName) prog_1_method_15_code (4 : Nat) (Option.some Jvm.ClassFile.FieldType.int)) ∈ gw := gwT (tb4 (List.mem_of_getElem? (i := 55) rfl)) rfl
theorem wn_776 : (Jvm.Cond.methodLinkNest "SinLenses" (210 : Nat) ({ cls := "SinLenses$Clerk", name := "begin", desc := "(LSinLenses$Parish;LSinLenses$Trail;)V" } : Jvm.MethodName) "SinLenses") ∈ tables_1 := tb4 (List.mem_of_getElem? (i := 56) rfl)
theorem wd_778 : (Jvm.Cond.instanceMethod ({ cls := "SinLenses$Clerk", name := "begin", desc := "(LSinLenses$Parish;LSinLenses$Trail;)V" } : Jvm.MethodName)) ∈ gw := gwT (tb4 (List.mem_of_getElem? (i := 58) rfl)) rfl
theorem wd_779 : (Jvm.Cond.code ({ cls := "SinLenses$Clerk", name := "begin", desc := "(LSinLenses$Parish;LSinLenses$Trail;)V" } : Jvm.MethodName) prog_2_method_2_code (3 : Nat) (Option.none : Option Jvm.ClassFile.FieldType)) ∈ gw := gwT (tb4 (List.mem_of_getElem? (i := 59) rfl)) rfl
theorem wn_780 : (Jvm.Cond.methodLinkNest "SinLenses$Clerk" (50 : Nat) ({ cls := "SinLenses$Parish", name := "copyFrom", desc := "(LSinLenses$Parish;)V" } : Jvm.MethodName) "SinLenses") ∈ tables_1 := tb4 (List.mem_of_getElem? (i := 60) rfl)
theorem wd_782 : (Jvm.Cond.instanceMethod ({ cls := "SinLenses$Parish", name := "copyFrom", desc := "(LSinLenses$Parish;)V" } : Jvm.MethodName)) ∈ gw := gwT (tb4 (List.mem_of_getElem? (i := 62) rfl)) rfl
theorem wd_783 : (Jvm.Cond.code ({ cls := "SinLenses$Parish", name := "copyFrom", desc := "(LSinLenses$Parish;)V" } : Jvm.MethodName) prog_7_method_2_code (3 : Nat) (Option.none : Option Jvm.ClassFile.FieldType)) ∈ gw := gwT (tb4 (List.mem_of_getElem? (i := 63) rfl)) rfl
theorem wd_784 : (Jvm.Cond.methodLink "SinLenses$Parish" (43 : Nat) ({ cls := "java/lang/System", name := "arraycopy", desc := "(Ljava/lang/Object;ILjava/lang/Object;II)V" } : Jvm.MethodName)) ∈ gw := gwT (tb4 (List.mem_of_getElem? (i := 64) rfl)) rfl
theorem wn_785 : (Jvm.Cond.methodLinkNest "SinLenses$Clerk" (54 : Nat) ({ cls := "SinLenses$Trail", name := "copyFrom", desc := "(LSinLenses$Trail;)V" } : Jvm.MethodName) "SinLenses") ∈ tables_1 := tb4 (List.mem_of_getElem? (i := 65) rfl)
theorem wd_787 : (Jvm.Cond.instanceMethod ({ cls := "SinLenses$Trail", name := "copyFrom", desc := "(LSinLenses$Trail;)V" } : Jvm.MethodName)) ∈ gw := gwT (tb4 (List.mem_of_getElem? (i := 67) rfl)) rfl
theorem wd_788 : (Jvm.Cond.code ({ cls := "SinLenses$Trail", name := "copyFrom", desc := "(LSinLenses$Trail;)V" } : Jvm.MethodName) prog_11_method_3_code (2 : Nat) (Option.none : Option Jvm.ClassFile.FieldType)) ∈ gw := gwT (tb4 (List.mem_of_getElem? (i := 68) rfl)) rfl
theorem wd_789 : (Jvm.Cond.methodLink "SinLenses$Trail" (19 : Nat) ({ cls := "java/lang/System", name := "arraycopy", desc := "(Ljava/lang/Object;ILjava/lang/Object;II)V" } : Jvm.MethodName)) ∈ gw := gwT (tb4 (List.mem_of_getElem? (i := 69) rfl)) rfl
theorem wn_790 : (Jvm.Cond.methodLinkNest "SinLenses" (217 : Nat) ({ cls := "SinLenses$Text", name := "repeatsOf", desc := "(I)I" } : Jvm.MethodName) "SinLenses") ∈ tables_1 := tb4 (List.mem_of_getElem? (i := 70) rfl)
theorem wd_792 : (Jvm.Cond.instanceMethod ({ cls := "SinLenses$Text", name := "repeatsOf", desc := "(I)I" } : Jvm.MethodName)) ∈ gw := gwT (tb4 (List.mem_of_getElem? (i := 72) rfl)) rfl
theorem wd_793 : (Jvm.Cond.code ({ cls := "SinLenses$Text", name := "repeatsOf", desc := "(I)I" } : Jvm.MethodName) prog_10_method_10_code (2 : Nat) (Option.some Jvm.ClassFile.FieldType.int)) ∈ gw := gwT (tb4 (List.mem_of_getElem? (i := 73) rfl)) rfl
theorem wn_794 : (Jvm.Cond.methodLinkNest "SinLenses" (220 : Nat) ({ cls := "SinLenses$Clerk", name := "runOnce", desc := "(LSinLenses$Text;ILSinLenses$Parish;LSinLenses$Trail;)Z" } : Jvm.MethodName) "SinLenses") ∈ tables_1 := tb4 (List.mem_of_getElem? (i := 74) rfl)
theorem wd_796 : (Jvm.Cond.instanceMethod ({ cls := "SinLenses$Clerk", name := "runOnce", desc := "(LSinLenses$Text;ILSinLenses$Parish;LSinLenses$Trail;)Z" } : Jvm.MethodName)) ∈ gw := gwT (tb4 (List.mem_of_getElem? (i := 76) rfl)) rfl
theorem wd_797 : (Jvm.Cond.code ({ cls := "SinLenses$Clerk", name := "runOnce", desc := "(LSinLenses$Text;ILSinLenses$Parish;LSinLenses$Trail;)Z" } : Jvm.MethodName) prog_2_method_4_code (13 : Nat) (Option.some Jvm.ClassFile.FieldType.boolean)) ∈ gw := gwT (tb4 (List.mem_of_getElem? (i := 77) rfl)) rfl
theorem wn_798 : (Jvm.Cond.methodLinkNest "SinLenses$Clerk" (64 : Nat) ({ cls := "SinLenses$Text", name := "usesOf", desc := "(I)I" } : Jvm.MethodName) "SinLenses") ∈ tables_1 := tb4 (List.mem_of_getElem? (i := 78) rfl)
theorem wd_800 : (Jvm.Cond.instanceMethod ({ cls := "SinLenses$Text", name := "usesOf", desc := "(I)I" } : Jvm.MethodName)) ∈ gw := gwT (tb4 (List.mem_of_getElem? (i := 80) rfl)) rfl
theorem wd_801 : (Jvm.Cond.code ({ cls := "SinLenses$Text", name := "usesOf", desc := "(I)I" } : Jvm.MethodName) prog_10_method_11_code (2 : Nat) (Option.some Jvm.ClassFile.FieldType.int)) ∈ gw := gwT (tb4 (List.mem_of_getElem? (i := 81) rfl)) rfl
theorem wd_802 : (Jvm.Cond.methodLink "SinLenses$Clerk" (70 : Nat) ({ cls := "SinLenses$Clerk", name := "learnWords", desc := "(ILSinLenses$Parish;)V" } : Jvm.MethodName)) ∈ gw := gwT (tb4 (List.mem_of_getElem? (i := 82) rfl)) rfl
theorem wd_804 : (Jvm.Cond.instanceMethod ({ cls := "SinLenses$Clerk", name := "learnWords", desc := "(ILSinLenses$Parish;)V" } : Jvm.MethodName)) ∈ gw := gwT (tb4 (List.mem_of_getElem? (i := 84) rfl)) rfl
theorem wd_805 : (Jvm.Cond.code ({ cls := "SinLenses$Clerk", name := "learnWords", desc := "(ILSinLenses$Parish;)V" } : Jvm.MethodName) prog_2_method_5_code (6 : Nat) (Option.none : Option Jvm.ClassFile.FieldType)) ∈ gw := gwT (tb4 (List.mem_of_getElem? (i := 85) rfl)) rfl
theorem wn_806 : (Jvm.Cond.methodLinkNest "SinLenses$Clerk" (90 : Nat) ({ cls := "SinLenses$Parish", name := "termOf", desc := "(I)I" } : Jvm.MethodName) "SinLenses") ∈ tables_1 := tb4 (List.mem_of_getElem? (i := 86) rfl)
theorem wn_807 : (Jvm.Cond.methodLinkNest "SinLenses$Clerk" (93 : Nat) ({ cls := "SinLenses$Parish", name := "has", desc := "(I)Z" } : Jvm.MethodName) "SinLenses") ∈ tables_1 := tb4 (List.mem_of_getElem? (i := 87) rfl)
theorem wn_808 : (Jvm.Cond.methodLinkNest "SinLenses$Clerk" (97 : Nat) ({ cls := "SinLenses$Parish", name := "sightOf", desc := "(I)I" } : Jvm.MethodName) "SinLenses") ∈ tables_1 := tb4 (List.mem_of_getElem? (i := 88) rfl)
theorem wn_809 : (Jvm.Cond.methodLinkNest "SinLenses$Clerk" (100 : Nat) ({ cls := "SinLenses$Parish", name := "sinsOf", desc := "(I)I" } : Jvm.MethodName) "SinLenses") ∈ tables_1 := tb4 (List.mem_of_getElem? (i := 89) rfl)
theorem wn_810 : (Jvm.Cond.methodLinkNest "SinLenses$Clerk" (103 : Nat) ({ cls := "SinLenses$Judge", name := "deed", desc := "(LSinLenses$Parish;II)I" } : Jvm.MethodName) "SinLenses") ∈ tables_1 := tb4 (List.mem_of_getElem? (i := 90) rfl)
theorem wn_811 : (Jvm.Cond.methodLinkNest "SinLenses$Clerk" (74 : Nat) ({ cls := "SinLenses$Text", name := "markOf", desc := "(II)I" } : Jvm.MethodName) "SinLenses") ∈ tables_1 := tb4 (List.mem_of_getElem? (i := 91) rfl)
theorem wn_812 : (Jvm.Cond.methodLinkNest "SinLenses$Clerk" (78 : Nat) ({ cls := "SinLenses$Sums", name := "worth", desc := "(LSinLenses$Text;II[I)I" } : Jvm.MethodName) "SinLenses") ∈ tables_1 := tb4 (List.mem_of_getElem? (i := 92) rfl)
theorem wd_813 : (Jvm.Cond.constant "SinLenses$Clerk" (82 : Nat) (-2147483648 : Int32)) ∈ gw := gwT (tb4 (List.mem_of_getElem? (i := 93) rfl)) rfl
theorem wn_814 : (Jvm.Cond.methodLinkNest "SinLenses$Clerk" (83 : Nat) ({ cls := "SinLenses$Text", name := "verbOf", desc := "(I)I" } : Jvm.MethodName) "SinLenses") ∈ tables_1 := tb4 (List.mem_of_getElem? (i := 94) rfl)
theorem wn_815 : (Jvm.Cond.methodLinkNest "SinLenses$Clerk" (86 : Nat) ({ cls := "SinLenses$Deeds", name := "act", desc := "(LSinLenses$Parish;LSinLenses$Trail;IIII)I" } : Jvm.MethodName) "SinLenses") ∈ tables_1 := tb4 (List.mem_of_getElem? (i := 95) rfl)
theorem wd_817 : (Jvm.Cond.instanceMethod ({ cls := "SinLenses$Deeds", name := "act", desc := "(LSinLenses$Parish;LSinLenses$Trail;IIII)I" } : Jvm.MethodName)) ∈ gw := gwT (tb4 (List.mem_of_getElem? (i := 97) rfl)) rfl
theorem wd_818 : (Jvm.Cond.code ({ cls := "SinLenses$Deeds", name := "act", desc := "(LSinLenses$Parish;LSinLenses$Trail;IIII)I" } : Jvm.MethodName) prog_3_method_2_code (8 : Nat) (Option.some Jvm.ClassFile.FieldType.int)) ∈ gw := gwT (tb4 (List.mem_of_getElem? (i := 98) rfl)) rfl
theorem wd_819 : (Jvm.Cond.methodLink "SinLenses$Deeds" (22 : Nat) ({ cls := "SinLenses$Deeds", name := "refusalOf", desc := "(LSinLenses$Parish;IIII)I" } : Jvm.MethodName)) ∈ gw := gwT (tb4 (List.mem_of_getElem? (i := 99) rfl)) rfl
theorem wd_821 : (Jvm.Cond.instanceMethod ({ cls := "SinLenses$Deeds", name := "refusalOf", desc := "(LSinLenses$Parish;IIII)I" } : Jvm.MethodName)) ∈ gw := gwT (tb4 (List.mem_of_getElem? (i := 101) rfl)) rfl
theorem wd_822 : (Jvm.Cond.code ({ cls := "SinLenses$Deeds", name := "refusalOf", desc := "(LSinLenses$Parish;IIII)I" } : Jvm.MethodName) prog_3_method_3_code (6 : Nat) (Option.some Jvm.ClassFile.FieldType.int)) ∈ gw := gwT (tb4 (List.mem_of_getElem? (i := 102) rfl)) rfl
theorem wd_823 : (Jvm.Cond.methodLink "SinLenses$Deeds" (75 : Nat) ({ cls := "SinLenses$Deeds", name := "refusalOfSin", desc := "(LSinLenses$Parish;III)I" } : Jvm.MethodName)) ∈ gw := gwT (tb4 (List.mem_of_getElem? (i := 103) rfl)) rfl
theorem wd_824 : (Jvm.Cond.static ({ cls := "SinLenses$Deeds", name := "refusalOfSin", desc := "(LSinLenses$Parish;III)I" } : Jvm.MethodName)) ∈ gw := gwT (tb4 (List.mem_of_getElem? (i := 104) rfl)) rfl
theorem wd_825 : (Jvm.Cond.code ({ cls := "SinLenses$Deeds", name := "refusalOfSin", desc := "(LSinLenses$Parish;III)I" } : Jvm.MethodName) prog_3_method_4_code (5 : Nat) (Option.some Jvm.ClassFile.FieldType.int)) ∈ gw := gwT (tb4 (List.mem_of_getElem? (i := 105) rfl)) rfl
theorem wn_826 : (Jvm.Cond.methodLinkNest "SinLenses$Deeds" (90 : Nat) ({ cls := "SinLenses", name := "isKind", desc := "(I)Z" } : Jvm.MethodName) "SinLenses") ∈ tables_1 := tb4 (List.mem_of_getElem? (i := 106) rfl)
theorem wn_827 : (Jvm.Cond.methodLinkNest "SinLenses$Deeds" (79 : Nat) ({ cls := "SinLenses$Parish", name := "has", desc := "(I)Z" } : Jvm.MethodName) "SinLenses") ∈ tables_1 := tb4 (List.mem_of_getElem? (i := 107) rfl)
theorem wn_828 : (Jvm.Cond.methodLinkNest "SinLenses$Deeds" (32 : Nat) ({ cls := "SinLenses$Parish", name := "sinOf", desc := "(II)I" } : Jvm.MethodName) "SinLenses") ∈ tables_1 := tb4 (List.mem_of_getElem? (i := 108) rfl)
theorem wn_829 : (Jvm.Cond.methodLinkNest "SinLenses$Deeds" (83 : Nat) ({ cls := "SinLenses$Judge", name := "bars", desc := "(LSinLenses$Parish;I)Z" } : Jvm.MethodName) "SinLenses") ∈ tables_1 := tb4 (List.mem_of_getElem? (i := 109) rfl)
theorem wn_830 : (Jvm.Cond.methodLinkNest "SinLenses$Deeds" (54 : Nat) ({ cls := "SinLenses$Parish", name := "glassOf", desc := "(I)I" } : Jvm.MethodName) "SinLenses") ∈ tables_1 := tb4 (List.mem_of_getElem? (i := 110) rfl)
theorem wn_831 : (Jvm.Cond.methodLinkNest "SinLenses$Deeds" (87 : Nat) ({ cls := "SinLenses$Parish", name := "termOf", desc := "(I)I" } : Jvm.MethodName) "SinLenses") ∈ tables_1 := tb4 (List.mem_of_getElem? (i := 111) rfl)
theorem wn_832 : (Jvm.Cond.methodLinkNest "SinLenses$Deeds" (26 : Nat) ({ cls := "SinLenses$Trail", name := "remember", desc := "(LSinLenses$Parish;I)V" } : Jvm.MethodName) "SinLenses") ∈ tables_1 := tb4 (List.mem_of_getElem? (i := 112) rfl)
theorem wd_834 : (Jvm.Cond.instanceMethod ({ cls := "SinLenses$Trail", name := "remember", desc := "(LSinLenses$Parish;I)V" } : Jvm.MethodName)) ∈ gw := gwT (tb4 (List.mem_of_getElem? (i := 114) rfl)) rfl
theorem wd_835 : (Jvm.Cond.code ({ cls := "SinLenses$Trail", name := "remember", desc := "(LSinLenses$Parish;I)V" } : Jvm.MethodName) prog_11_method_4_code (4 : Nat) (Option.none : Option Jvm.ClassFile.FieldType)) ∈ gw := gwT (tb4 (List.mem_of_getElem? (i := 115) rfl)) rfl
theorem wd_836 : (Jvm.Cond.methodLink "SinLenses$Trail" (28 : Nat) ({ cls := "java/lang/Math", name := "floorMod", desc := "(II)I" } : Jvm.MethodName)) ∈ gw := gwT (tb4 (List.mem_of_getElem? (i := 116) rfl)) rfl
theorem wd_837 : (Jvm.Cond.static ({ cls := "java/lang/Math", name := "floorMod", desc := "(II)I" } : Jvm.MethodName)) ∈ gw := gwT (tb4 (List.mem_of_getElem? (i := 117) rfl)) rfl
theorem wd_838 : (Jvm.Cond.code ({ cls := "java/lang/Math", name := "floorMod", desc := "(II)I" } : Jvm.MethodName) prog_15_method_50_code (3 : Nat) (Option.some Jvm.ClassFile.FieldType.int)) ∈ gw := gwT (tb4 (List.mem_of_getElem? (i := 118) rfl)) rfl
theorem wn_839 : (Jvm.Cond.methodLinkNest "SinLenses$Trail" (42 : Nat) ({ cls := "SinLenses$Parish", name := "termOf", desc := "(I)I" } : Jvm.MethodName) "SinLenses") ∈ tables_1 := tb4 (List.mem_of_getElem? (i := 119) rfl)
theorem wd_840 : (Jvm.Cond.methodLink "SinLenses$Trail" (46 : Nat) ({ cls := "java/lang/Math", name := "min", desc := "(II)I" } : Jvm.MethodName)) ∈ gw := gwT (tb4 (List.mem_of_getElem? (i := 120) rfl)) rfl
theorem wn_841 : (Jvm.Cond.methodLinkNest "SinLenses$Deeds" (38 : Nat) ({ cls := "SinLenses$Parish", name := "setSin", desc := "(III)V" } : Jvm.MethodName) "SinLenses") ∈ tables_1 := tb4 (List.mem_of_getElem? (i := 121) rfl)
theorem wn_842 : (Jvm.Cond.methodLinkNest "SinLenses$Deeds" (42 : Nat) ({ cls := "SinLenses$Parish", name := "lawInForce", desc := "()LSinLenses$Text;" } : Jvm.MethodName) "SinLenses") ∈ tables_1 := tb4 (List.mem_of_getElem? (i := 122) rfl)
theorem wn_843 : (Jvm.Cond.methodLinkNest "SinLenses$Deeds" (46 : Nat) ({ cls := "SinLenses$Judge", name := "glassBy", desc := "(LSinLenses$Parish;LSinLenses$Text;I)I" } : Jvm.MethodName) "SinLenses") ∈ tables_1 := tb4 (List.mem_of_getElem? (i := 123) rfl)
theorem wd_845 : (Jvm.Cond.instanceMethod ({ cls := "SinLenses$Judge", name := "glassBy", desc := "(LSinLenses$Parish;LSinLenses$Text;I)I" } : Jvm.MethodName)) ∈ gw := gwT (tb4 (List.mem_of_getElem? (i := 125) rfl)) rfl
theorem wd_846 : (Jvm.Cond.code ({ cls := "SinLenses$Judge", name := "glassBy", desc := "(LSinLenses$Parish;LSinLenses$Text;I)I" } : Jvm.MethodName) prog_4_method_6_code (7 : Nat) (Option.some Jvm.ClassFile.FieldType.int)) ∈ gw := gwT (tb4 (List.mem_of_getElem? (i := 126) rfl)) rfl
theorem wd_847 : (Jvm.Cond.methodLink "SinLenses$Judge" (57 : Nat) ({ cls := "SinLenses$Judge", name := "lensFor", desc := "(LSinLenses$Parish;LSinLenses$Text;II)I" } : Jvm.MethodName)) ∈ gw := gwT (tb4 (List.mem_of_getElem? (i := 127) rfl)) rfl
theorem wn_848 : (Jvm.Cond.methodLinkNest "SinLenses$Deeds" (50 : Nat) ({ cls := "SinLenses$Parish", name := "setGlass", desc := "(II)V" } : Jvm.MethodName) "SinLenses") ∈ tables_1 := tb4 (List.mem_of_getElem? (i := 128) rfl)
theorem wn_849 : (Jvm.Cond.methodLinkNest "SinLenses$Deeds" (58 : Nat) ({ cls := "SinLenses$Optics", name := "lensesIn", desc := "(I)I" } : Jvm.MethodName) "SinLenses") ∈ tables_1 := tb4 (List.mem_of_getElem? (i := 129) rfl)
theorem wd_850 : (Jvm.Cond.methodLink "SinLenses$Deeds" (63 : Nat) ({ cls := "SinLenses$Deeds", name := "exchange", desc := "(LSinLenses$Parish;II)I" } : Jvm.MethodName)) ∈ gw := gwT (tb4 (List.mem_of_getElem? (i := 130) rfl)) rfl
theorem wd_851 : (Jvm.Cond.static ({ cls := "SinLenses$Deeds", name := "exchange", desc := "(LSinLenses$Parish;II)I" } : Jvm.MethodName)) ∈ gw := gwT (tb4 (List.mem_of_getElem? (i := 131) rfl)) rfl
theorem wd_852 : (Jvm.Cond.code ({ cls := "SinLenses$Deeds", name := "exchange", desc := "(LSinLenses$Parish;II)I" } : Jvm.MethodName) prog_3_method_5_code (4 : Nat) (Option.some Jvm.ClassFile.FieldType.int)) ∈ gw := gwT (tb4 (List.mem_of_getElem? (i := 132) rfl)) rfl
theorem wd_853 : (Jvm.Cond.methodLink "SinLenses$Deeds" (67 : Nat) ({ cls := "SinLenses$Deeds", name := "takeOff", desc := "(LSinLenses$Parish;I)I" } : Jvm.MethodName)) ∈ gw := gwT (tb4 (List.mem_of_getElem? (i := 133) rfl)) rfl
theorem wd_854 : (Jvm.Cond.static ({ cls := "SinLenses$Deeds", name := "takeOff", desc := "(LSinLenses$Parish;I)I" } : Jvm.MethodName)) ∈ gw := gwT (tb4 (List.mem_of_getElem? (i := 134) rfl)) rfl
theorem wd_855 : (Jvm.Cond.code ({ cls := "SinLenses$Deeds", name := "takeOff", desc := "(LSinLenses$Parish;I)I" } : Jvm.MethodName) prog_3_method_6_code (3 : Nat) (Option.some Jvm.ClassFile.FieldType.int)) ∈ gw := gwT (tb4 (List.mem_of_getElem? (i := 135) rfl)) rfl
theorem wd_856 : (Jvm.Cond.methodLink "SinLenses$Deeds" (71 : Nat) ({ cls := "SinLenses$Deeds", name := "nextDay", desc := "(LSinLenses$Parish;)I" } : Jvm.MethodName)) ∈ gw := gwT (tb4 (List.mem_of_getElem? (i := 136) rfl)) rfl
theorem wd_858 : (Jvm.Cond.instanceMethod ({ cls := "SinLenses$Deeds", name := "nextDay", desc := "(LSinLenses$Parish;)I" } : Jvm.MethodName)) ∈ gw := gwT (tb4 (List.mem_of_getElem? (i := 138) rfl)) rfl
theorem wd_859 : (Jvm.Cond.code ({ cls := "SinLenses$Deeds", name := "nextDay", desc := "(LSinLenses$Parish;)I" } : Jvm.MethodName) prog_3_method_7_code (4 : Nat) (Option.some Jvm.ClassFile.FieldType.int)) ∈ gw := gwT (tb4 (List.mem_of_getElem? (i := 139) rfl)) rfl
theorem wn_860 : (Jvm.Cond.methodLinkNest "SinLenses$Deeds" (97 : Nat) ({ cls := "SinLenses$Judge", name := "growth", desc := "(LSinLenses$Parish;II)I" } : Jvm.MethodName) "SinLenses") ∈ tables_1 := tb4 (List.mem_of_getElem? (i := 140) rfl)
theorem wn_861 : (Jvm.Cond.methodLinkNest "SinLenses$Deeds" (100 : Nat) ({ cls := "SinLenses$Parish", name := "setTerm", desc := "(II)V" } : Jvm.MethodName) "SinLenses") ∈ tables_1 := tb4 (List.mem_of_getElem? (i := 141) rfl)
theorem wn_862 : (Jvm.Cond.methodLinkNest "SinLenses" (224 : Nat) ({ cls := "SinLenses$Clerk", name := "takeBack", desc := "(LSinLenses$Parish;LSinLenses$Trail;)V" } : Jvm.MethodName) "SinLenses") ∈ tables_1 := tb4 (List.mem_of_getElem? (i := 142) rfl)
theorem wd_864 : (Jvm.Cond.instanceMethod ({ cls := "SinLenses$Clerk", name := "takeBack", desc := "(LSinLenses$Parish;LSinLenses$Trail;)V" } : Jvm.MethodName)) ∈ gw := gwT (tb4 (List.mem_of_getElem? (i := 144) rfl)) rfl
theorem wd_865 : (Jvm.Cond.code ({ cls := "SinLenses$Clerk", name := "takeBack", desc := "(LSinLenses$Parish;LSinLenses$Trail;)V" } : Jvm.MethodName) prog_2_method_3_code (3 : Nat) (Option.none : Option Jvm.ClassFile.FieldType)) ∈ gw := gwT (tb4 (List.mem_of_getElem? (i := 145) rfl)) rfl
theorem wd_866 : (Jvm.Cond.methodLink "SinLensesLaw" (70 : Nat) ({ cls := "SinLenses", name := "fault", desc := "()I" } : Jvm.MethodName)) ∈ gw := gwT (tb4 (List.mem_of_getElem? (i := 146) rfl)) rfl
theorem wd_867 : (Jvm.Cond.instanceMethod ({ cls := "SinLenses", name := "fault", desc := "()I" } : Jvm.MethodName)) ∈ gw := gwT (tb4 (List.mem_of_getElem? (i := 147) rfl)) rfl
theorem wd_868 : (Jvm.Cond.selects "SinLenses" ({ cls := "SinLenses", name := "fault", desc := "()I" } : Jvm.MethodName) ({ cls := "SinLenses", name := "fault", desc := "()I" } : Jvm.MethodName)) ∈ gw := gwT (tb4 (List.mem_of_getElem? (i := 148) rfl)) rfl
theorem wd_869 : (Jvm.Cond.code ({ cls := "SinLenses", name := "fault", desc := "()I" } : Jvm.MethodName) prog_1_method_16_code (1 : Nat) (Option.some Jvm.ClassFile.FieldType.int)) ∈ gw := gwT (tb4 (List.mem_of_getElem? (i := 149) rfl)) rfl
theorem wd_870 : (Jvm.Cond.methodLink "SinLensesLaw" (74 : Nat) ({ cls := "SinLenses", name := "stopped", desc := "()I" } : Jvm.MethodName)) ∈ gw := gwT (tb4 (List.mem_of_getElem? (i := 150) rfl)) rfl
theorem wd_871 : (Jvm.Cond.instanceMethod ({ cls := "SinLenses", name := "stopped", desc := "()I" } : Jvm.MethodName)) ∈ gw := gwT (tb4 (List.mem_of_getElem? (i := 151) rfl)) rfl
theorem wd_872 : (Jvm.Cond.selects "SinLenses" ({ cls := "SinLenses", name := "stopped", desc := "()I" } : Jvm.MethodName) ({ cls := "SinLenses", name := "stopped", desc := "()I" } : Jvm.MethodName)) ∈ gw := gwT (tb4 (List.mem_of_getElem? (i := 152) rfl)) rfl
theorem wd_873 : (Jvm.Cond.code ({ cls := "SinLenses", name := "stopped", desc := "()I" } : Jvm.MethodName) prog_1_method_17_code (1 : Nat) (Option.some Jvm.ClassFile.FieldType.int)) ∈ gw := gwT (tb4 (List.mem_of_getElem? (i := 153) rfl)) rfl
theorem wd_874 : (Jvm.Cond.methodLink "SinLensesLaw" (78 : Nat) ({ cls := "SinLenses", name := "force", desc := "(I)I" } : Jvm.MethodName)) ∈ gw := gwT (tb4 (List.mem_of_getElem? (i := 154) rfl)) rfl
theorem wd_875 : (Jvm.Cond.instanceMethod ({ cls := "SinLenses", name := "force", desc := "(I)I" } : Jvm.MethodName)) ∈ gw := gwT (tb4 (List.mem_of_getElem? (i := 155) rfl)) rfl
theorem wd_876 : (Jvm.Cond.selects "SinLenses" ({ cls := "SinLenses", name := "force", desc := "(I)I" } : Jvm.MethodName) ({ cls := "SinLenses", name := "force", desc := "(I)I" } : Jvm.MethodName)) ∈ gw := gwT (tb4 (List.mem_of_getElem? (i := 156) rfl)) rfl
theorem wd_877 : (Jvm.Cond.code ({ cls := "SinLenses", name := "force", desc := "(I)I" } : Jvm.MethodName) prog_1_method_18_code (3 : Nat) (Option.some Jvm.ClassFile.FieldType.int)) ∈ gw := gwT (tb4 (List.mem_of_getElem? (i := 157) rfl)) rfl
theorem wn_878 : (Jvm.Cond.methodLinkNest "SinLenses" (233 : Nat) ({ cls := "SinLenses$Parish", name := "hasLaw", desc := "(I)Z" } : Jvm.MethodName) "SinLenses") ∈ tables_1 := tb4 (List.mem_of_getElem? (i := 158) rfl)
theorem wd_879 : (Jvm.Cond.methodLink "SinLensesLaw" (82 : Nat) ({ cls := "SinLenses", name := "sin", desc := "(III)I" } : Jvm.MethodName)) ∈ gw := gwT (tb4 (List.mem_of_getElem? (i := 159) rfl)) rfl
theorem wd_880 : (Jvm.Cond.instanceMethod ({ cls := "SinLenses", name := "sin", desc := "(III)I" } : Jvm.MethodName)) ∈ gw := gwT (tb4 (List.mem_of_getElem? (i := 160) rfl)) rfl
theorem wd_881 : (Jvm.Cond.selects "SinLenses" ({ cls := "SinLenses", name := "sin", desc := "(III)I" } : Jvm.MethodName) ({ cls := "SinLenses", name := "sin", desc := "(III)I" } : Jvm.MethodName)) ∈ gw := gwT (tb4 (List.mem_of_getElem? (i := 161) rfl)) rfl
theorem wd_882 : (Jvm.Cond.code ({ cls := "SinLenses", name := "sin", desc := "(III)I" } : Jvm.MethodName) prog_1_method_19_code (4 : Nat) (Option.some Jvm.ClassFile.FieldType.int)) ∈ gw := gwT (tb4 (List.mem_of_getElem? (i := 162) rfl)) rfl
theorem wn_883 : (Jvm.Cond.methodLinkNest "SinLenses" (239 : Nat) ({ cls := "SinLenses$Deeds", name := "act", desc := "(LSinLenses$Parish;LSinLenses$Trail;IIII)I" } : Jvm.MethodName) "SinLenses") ∈ tables_1 := tb4 (List.mem_of_getElem? (i := 163) rfl)
theorem wd_884 : (Jvm.Cond.methodLink "SinLenses" (243 : Nat) ({ cls := "SinLenses", name := "judged", desc := "(I)I" } : Jvm.MethodName)) ∈ gw := gwT (tb4 (List.mem_of_getElem? (i := 164) rfl)) rfl
theorem wd_886 : (Jvm.Cond.instanceMethod ({ cls := "SinLenses", name := "judged", desc := "(I)I" } : Jvm.MethodName)) ∈ gw := gwT (tb4 (List.mem_of_getElem? (i := 166) rfl)) rfl
theorem wd_887 : (Jvm.Cond.code ({ cls := "SinLenses", name := "judged", desc := "(I)I" } : Jvm.MethodName) prog_1_method_46_code (2 : Nat) (Option.some Jvm.ClassFile.FieldType.int)) ∈ gw := gwT (tb4 (List.mem_of_getElem? (i := 167) rfl)) rfl
theorem wd_888 : (Jvm.Cond.methodLink "SinLensesLaw" (86 : Nat) ({ cls := "SinLenses", name := "grind", desc := "(I)I" } : Jvm.MethodName)) ∈ gw := gwT (tb4 (List.mem_of_getElem? (i := 168) rfl)) rfl
theorem wd_889 : (Jvm.Cond.instanceMethod ({ cls := "SinLenses", name := "grind", desc := "(I)I" } : Jvm.MethodName)) ∈ gw := gwT (tb4 (List.mem_of_getElem? (i := 169) rfl)) rfl
theorem wd_890 : (Jvm.Cond.selects "SinLenses" ({ cls := "SinLenses", name := "grind", desc := "(I)I" } : Jvm.MethodName) ({ cls := "SinLenses", name := "grind", desc := "(I)I" } : Jvm.MethodName)) ∈ gw := gwT (tb4 (List.mem_of_getElem? (i := 170) rfl)) rfl
theorem wd_891 : (Jvm.Cond.code ({ cls := "SinLenses", name := "grind", desc := "(I)I" } : Jvm.MethodName) prog_1_method_20_code (2 : Nat) (Option.some Jvm.ClassFile.FieldType.int)) ∈ gw := gwT (tb4 (List.mem_of_getElem? (i := 171) rfl)) rfl
theorem wd_892 : (Jvm.Cond.methodLink "SinLensesLaw" (90 : Nat) ({ cls := "SinLenses", name := "swap", desc := "(II)I" } : Jvm.MethodName)) ∈ gw := gwT (tb4 (List.mem_of_getElem? (i := 172) rfl)) rfl
theorem wd_893 : (Jvm.Cond.instanceMethod ({ cls := "SinLenses", name := "swap", desc := "(II)I" } : Jvm.MethodName)) ∈ gw := gwT (tb4 (List.mem_of_getElem? (i := 173) rfl)) rfl
theorem wd_894 : (Jvm.Cond.selects "SinLenses" ({ cls := "SinLenses", name := "swap", desc := "(II)I" } : Jvm.MethodName) ({ cls := "SinLenses", name := "swap", desc := "(II)I" } : Jvm.MethodName)) ∈ gw := gwT (tb4 (List.mem_of_getElem? (i := 174) rfl)) rfl
theorem wd_895 : (Jvm.Cond.code ({ cls := "SinLenses", name := "swap", desc := "(II)I" } : Jvm.MethodName) prog_1_method_21_code (3 : Nat) (Option.some Jvm.ClassFile.FieldType.int)) ∈ gw := gwT (tb4 (List.mem_of_getElem? (i := 175) rfl)) rfl
theorem wd_896 : (Jvm.Cond.methodLink "SinLensesLaw" (94 : Nat) ({ cls := "SinLenses", name := "cloth", desc := "(I)I" } : Jvm.MethodName)) ∈ gw := gwT (tb4 (List.mem_of_getElem? (i := 176) rfl)) rfl
theorem wd_897 : (Jvm.Cond.instanceMethod ({ cls := "SinLenses", name := "cloth", desc := "(I)I" } : Jvm.MethodName)) ∈ gw := gwT (tb4 (List.mem_of_getElem? (i := 177) rfl)) rfl
theorem wd_898 : (Jvm.Cond.selects "SinLenses" ({ cls := "SinLenses", name := "cloth", desc := "(I)I" } : Jvm.MethodName) ({ cls := "SinLenses", name := "cloth", desc := "(I)I" } : Jvm.MethodName)) ∈ gw := gwT (tb4 (List.mem_of_getElem? (i := 178) rfl)) rfl
theorem wd_899 : (Jvm.Cond.code ({ cls := "SinLenses", name := "cloth", desc := "(I)I" } : Jvm.MethodName) prog_1_method_22_code (2 : Nat) (Option.some Jvm.ClassFile.FieldType.int)) ∈ gw := gwT (tb4 (List.mem_of_getElem? (i := 179) rfl)) rfl
theorem wd_900 : (Jvm.Cond.methodLink "SinLensesLaw" (98 : Nat) ({ cls := "SinLenses", name := "pass", desc := "()I" } : Jvm.MethodName)) ∈ gw := gwT (tb4 (List.mem_of_getElem? (i := 180) rfl)) rfl
theorem wd_901 : (Jvm.Cond.instanceMethod ({ cls := "SinLenses", name := "pass", desc := "()I" } : Jvm.MethodName)) ∈ gw := gwT (tb4 (List.mem_of_getElem? (i := 181) rfl)) rfl
theorem wd_902 : (Jvm.Cond.selects "SinLenses" ({ cls := "SinLenses", name := "pass", desc := "()I" } : Jvm.MethodName) ({ cls := "SinLenses", name := "pass", desc := "()I" } : Jvm.MethodName)) ∈ gw := gwT (tb4 (List.mem_of_getElem? (i := 182) rfl)) rfl
theorem wd_903 : (Jvm.Cond.code ({ cls := "SinLenses", name := "pass", desc := "()I" } : Jvm.MethodName) prog_1_method_23_code (1 : Nat) (Option.some Jvm.ClassFile.FieldType.int)) ∈ gw := gwT (tb4 (List.mem_of_getElem? (i := 183) rfl)) rfl
theorem wd_904 : (Jvm.Cond.methodLink "SinLensesLaw" (102 : Nat) ({ cls := "SinLenses", name := "undo", desc := "()I" } : Jvm.MethodName)) ∈ gw := gwT (tb4 (List.mem_of_getElem? (i := 184) rfl)) rfl
theorem wd_905 : (Jvm.Cond.instanceMethod ({ cls := "SinLenses", name := "undo", desc := "()I" } : Jvm.MethodName)) ∈ gw := gwT (tb4 (List.mem_of_getElem? (i := 185) rfl)) rfl
theorem wd_906 : (Jvm.Cond.selects "SinLenses" ({ cls := "SinLenses", name := "undo", desc := "()I" } : Jvm.MethodName) ({ cls := "SinLenses", name := "undo", desc := "()I" } : Jvm.MethodName)) ∈ gw := gwT (tb4 (List.mem_of_getElem? (i := 186) rfl)) rfl
theorem wd_907 : (Jvm.Cond.code ({ cls := "SinLenses", name := "undo", desc := "()I" } : Jvm.MethodName) prog_1_method_24_code (1 : Nat) (Option.some Jvm.ClassFile.FieldType.int)) ∈ gw := gwT (tb4 (List.mem_of_getElem? (i := 187) rfl)) rfl
theorem wn_908 : (Jvm.Cond.methodLinkNest "SinLenses" (249 : Nat) ({ cls := "SinLenses$Trail", name := "goBack", desc := "(LSinLenses$Parish;)I" } : Jvm.MethodName) "SinLenses") ∈ tables_1 := tb4 (List.mem_of_getElem? (i := 188) rfl)
theorem wd_910 : (Jvm.Cond.instanceMethod ({ cls := "SinLenses$Trail", name := "goBack", desc := "(LSinLenses$Parish;)I" } : Jvm.MethodName)) ∈ gw := gwT (tb4 (List.mem_of_getElem? (i := 190) rfl)) rfl
theorem wd_911 : (Jvm.Cond.code ({ cls := "SinLenses$Trail", name := "goBack", desc := "(LSinLenses$Parish;)I" } : Jvm.MethodName) prog_11_method_5_code (3 : Nat) (Option.some Jvm.ClassFile.FieldType.int)) ∈ gw := gwT (tb4 (List.mem_of_getElem? (i := 191) rfl)) rfl
theorem wd_912 : (Jvm.Cond.methodLink "SinLenses$Trail" (49 : Nat) ({ cls := "java/lang/Math", name := "max", desc := "(II)I" } : Jvm.MethodName)) ∈ gw := gwT (tb4 (List.mem_of_getElem? (i := 192) rfl)) rfl
theorem wn_913 : (Jvm.Cond.methodLinkNest "SinLenses$Trail" (52 : Nat) ({ cls := "SinLenses$Parish", name := "setTerm", desc := "(II)V" } : Jvm.MethodName) "SinLenses") ∈ tables_1 := tb4 (List.mem_of_getElem? (i := 193) rfl)
theorem wd_914 : (Jvm.Cond.methodLink "SinLensesLaw" (106 : Nat) ({ cls := "SinLenses", name := "cure", desc := "(II)I" } : Jvm.MethodName)) ∈ gw := gwT (tb4 (List.mem_of_getElem? (i := 194) rfl)) rfl
theorem wd_915 : (Jvm.Cond.instanceMethod ({ cls := "SinLenses", name := "cure", desc := "(II)I" } : Jvm.MethodName)) ∈ gw := gwT (tb4 (List.mem_of_getElem? (i := 195) rfl)) rfl
theorem wd_916 : (Jvm.Cond.selects "SinLenses" ({ cls := "SinLenses", name := "cure", desc := "(II)I" } : Jvm.MethodName) ({ cls := "SinLenses", name := "cure", desc := "(II)I" } : Jvm.MethodName)) ∈ gw := gwT (tb4 (List.mem_of_getElem? (i := 196) rfl)) rfl
theorem wd_917 : (Jvm.Cond.code ({ cls := "SinLenses", name := "cure", desc := "(II)I" } : Jvm.MethodName) prog_1_method_25_code (3 : Nat) (Option.some Jvm.ClassFile.FieldType.int)) ∈ gw := gwT (tb4 (List.mem_of_getElem? (i := 197) rfl)) rfl
theorem wn_918 : (Jvm.Cond.methodLinkNest "SinLenses" (253 : Nat) ({ cls := "SinLenses$Paper", name := "cureOf", desc := "(LSinLenses$Parish;II)I" } : Jvm.MethodName) "SinLenses") ∈ tables_1 := tb4 (List.mem_of_getElem? (i := 198) rfl)
theorem wd_920 : (Jvm.Cond.instanceMethod ({ cls := "SinLenses$Paper", name := "cureOf", desc := "(LSinLenses$Parish;II)I" } : Jvm.MethodName)) ∈ gw := gwT (tb4 (List.mem_of_getElem? (i := 200) rfl)) rfl
theorem wd_921 : (Jvm.Cond.code ({ cls := "SinLenses$Paper", name := "cureOf", desc := "(LSinLenses$Parish;II)I" } : Jvm.MethodName) prog_6_method_2_code (6 : Nat) (Option.some Jvm.ClassFile.FieldType.int)) ∈ gw := gwT (tb4 (List.mem_of_getElem? (i := 201) rfl)) rfl
theorem wn_922 : (Jvm.Cond.methodLinkNest "SinLenses$Paper" (55 : Nat) ({ cls := "SinLenses$Parish", name := "termOf", desc := "(I)I" } : Jvm.MethodName) "SinLenses") ∈ tables_1 := tb4 (List.mem_of_getElem? (i := 202) rfl)
theorem wn_923 : (Jvm.Cond.methodLinkNest "SinLenses$Paper" (61 : Nat) ({ cls := "SinLenses$Parish", name := "sightOf", desc := "(I)I" } : Jvm.MethodName) "SinLenses") ∈ tables_1 := tb4 (List.mem_of_getElem? (i := 203) rfl)
theorem wd_924 : (Jvm.Cond.methodLink "SinLenses$Paper" (64 : Nat) ({ cls := "SinLenses$Paper", name := "spread", desc := "(I)V" } : Jvm.MethodName)) ∈ gw := gwT (tb4 (List.mem_of_getElem? (i := 204) rfl)) rfl
theorem wd_926 : (Jvm.Cond.instanceMethod ({ cls := "SinLenses$Paper", name := "spread", desc := "(I)V" } : Jvm.MethodName)) ∈ gw := gwT (tb4 (List.mem_of_getElem? (i := 206) rfl)) rfl
theorem wd_927 : (Jvm.Cond.code ({ cls := "SinLenses$Paper", name := "spread", desc := "(I)V" } : Jvm.MethodName) prog_6_method_3_code (7 : Nat) (Option.none : Option Jvm.ClassFile.FieldType)) ∈ gw := gwT (tb4 (List.mem_of_getElem? (i := 207) rfl)) rfl
theorem wn_928 : (Jvm.Cond.methodLinkNest "SinLenses$Paper" (72 : Nat) ({ cls := "SinLenses", name := "isNumber", desc := "(I)Z" } : Jvm.MethodName) "SinLenses") ∈ tables_1 := tb4 (List.mem_of_getElem? (i := 208) rfl)
theorem wn_929 : (Jvm.Cond.methodLinkNest "SinLenses$Paper" (76 : Nat) ({ cls := "SinLenses$Optics", name := "bend", desc := "(II)I" } : Jvm.MethodName) "SinLenses") ∈ tables_1 := tb4 (List.mem_of_getElem? (i := 209) rfl)
theorem wd_930 : (Jvm.Cond.methodLink "SinLenses$Paper" (68 : Nat) ({ cls := "SinLenses$Paper", name := "lensOnTheWay", desc := "(II)I" } : Jvm.MethodName)) ∈ gw := gwT (tb4 (List.mem_of_getElem? (i := 210) rfl)) rfl
theorem wd_932 : (Jvm.Cond.instanceMethod ({ cls := "SinLenses$Paper", name := "lensOnTheWay", desc := "(II)I" } : Jvm.MethodName)) ∈ gw := gwT (tb4 (List.mem_of_getElem? (i := 212) rfl)) rfl
theorem wd_933 : (Jvm.Cond.code ({ cls := "SinLenses$Paper", name := "lensOnTheWay", desc := "(II)I" } : Jvm.MethodName) prog_6_method_4_code (5 : Nat) (Option.some Jvm.ClassFile.FieldType.int)) ∈ gw := gwT (tb4 (List.mem_of_getElem? (i := 213) rfl)) rfl
theorem wd_934 : (Jvm.Cond.methodLink "SinLensesLaw" (110 : Nat) ({ cls := "SinLenses", name := "saw", desc := "(II)I" } : Jvm.MethodName)) ∈ gw := gwT (tb4 (List.mem_of_getElem? (i := 214) rfl)) rfl
theorem wd_935 : (Jvm.Cond.instanceMethod ({ cls := "SinLenses", name := "saw", desc := "(II)I" } : Jvm.MethodName)) ∈ gw := gwT (tb4 (List.mem_of_getElem? (i := 215) rfl)) rfl
theorem wd_936 : (Jvm.Cond.selects "SinLenses" ({ cls := "SinLenses", name := "saw", desc := "(II)I" } : Jvm.MethodName) ({ cls := "SinLenses", name := "saw", desc := "(II)I" } : Jvm.MethodName)) ∈ gw := gwT (tb4 (List.mem_of_getElem? (i := 216) rfl)) rfl
theorem wd_937 : (Jvm.Cond.code ({ cls := "SinLenses", name := "saw", desc := "(II)I" } : Jvm.MethodName) prog_1_method_26_code (3 : Nat) (Option.some Jvm.ClassFile.FieldType.int)) ∈ gw := gwT (tb4 (List.mem_of_getElem? (i := 217) rfl)) rfl
theorem wn_938 : (Jvm.Cond.methodLinkNest "SinLenses" (259 : Nat) ({ cls := "SinLenses$Parish", name := "addSeen", desc := "(II)I" } : Jvm.MethodName) "SinLenses") ∈ tables_1 := tb4 (List.mem_of_getElem? (i := 218) rfl)
theorem wd_940 : (Jvm.Cond.instanceMethod ({ cls := "SinLenses$Parish", name := "addSeen", desc := "(II)I" } : Jvm.MethodName)) ∈ gw := gwT (tb4 (List.mem_of_getElem? (i := 220) rfl)) rfl
theorem wd_941 : (Jvm.Cond.code ({ cls := "SinLenses$Parish", name := "addSeen", desc := "(II)I" } : Jvm.MethodName) prog_7_method_16_code (3 : Nat) (Option.some Jvm.ClassFile.FieldType.int)) ∈ gw := gwT (tb4 (List.mem_of_getElem? (i := 221) rfl)) rfl
theorem wd_942 : (Jvm.Cond.methodLink "SinLensesLaw" (114 : Nat) ({ cls := "SinLenses", name := "forget", desc := "()I" } : Jvm.MethodName)) ∈ gw := gwT (tb4 (List.mem_of_getElem? (i := 222) rfl)) rfl
theorem wd_943 : (Jvm.Cond.instanceMethod ({ cls := "SinLenses", name := "forget", desc := "()I" } : Jvm.MethodName)) ∈ gw := gwT (tb4 (List.mem_of_getElem? (i := 223) rfl)) rfl
theorem wd_944 : (Jvm.Cond.selects "SinLenses" ({ cls := "SinLenses", name := "forget", desc := "()I" } : Jvm.MethodName) ({ cls := "SinLenses", name := "forget", desc := "()I" } : Jvm.MethodName)) ∈ gw := gwT (tb4 (List.mem_of_getElem? (i := 224) rfl)) rfl
theorem wd_945 : (Jvm.Cond.code ({ cls := "SinLenses", name := "forget", desc := "()I" } : Jvm.MethodName) prog_1_method_27_code (2 : Nat) (Option.some Jvm.ClassFile.FieldType.int)) ∈ gw := gwT (tb4 (List.mem_of_getElem? (i := 225) rfl)) rfl
theorem wd_946 : (Jvm.Cond.methodLink "SinLensesLaw" (118 : Nat) ({ cls := "SinLenses", name := "scenes", desc := "(I)I" } : Jvm.MethodName)) ∈ gw := gwT (tb4 (List.mem_of_getElem? (i := 226) rfl)) rfl
theorem wd_947 : (Jvm.Cond.instanceMethod ({ cls := "SinLenses", name := "scenes", desc := "(I)I" } : Jvm.MethodName)) ∈ gw := gwT (tb4 (List.mem_of_getElem? (i := 227) rfl)) rfl
theorem wd_948 : (Jvm.Cond.selects "SinLenses" ({ cls := "SinLenses", name := "scenes", desc := "(I)I" } : Jvm.MethodName) ({ cls := "SinLenses", name := "scenes", desc := "(I)I" } : Jvm.MethodName)) ∈ gw := gwT (tb4 (List.mem_of_getElem? (i := 228) rfl)) rfl
theorem wd_949 : (Jvm.Cond.code ({ cls := "SinLenses", name := "scenes", desc := "(I)I" } : Jvm.MethodName) prog_1_method_28_code (2 : Nat) (Option.some Jvm.ClassFile.FieldType.int)) ∈ gw := gwT (tb4 (List.mem_of_getElem? (i := 229) rfl)) rfl
theorem wn_950 : (Jvm.Cond.methodLinkNest "SinLenses" (262 : Nat) ({ cls := "SinLenses$Paper", name := "sceneAt", desc := "(LSinLenses$Parish;I)I" } : Jvm.MethodName) "SinLenses") ∈ tables_1 := tb4 (List.mem_of_getElem? (i := 230) rfl)
theorem wd_952 : (Jvm.Cond.instanceMethod ({ cls := "SinLenses$Paper", name := "sceneAt", desc := "(LSinLenses$Parish;I)I" } : Jvm.MethodName)) ∈ gw := gwT (tb4 (List.mem_of_getElem? (i := 232) rfl)) rfl
theorem wd_953 : (Jvm.Cond.code ({ cls := "SinLenses$Paper", name := "sceneAt", desc := "(LSinLenses$Parish;I)I" } : Jvm.MethodName) prog_6_method_5_code (4 : Nat) (Option.some Jvm.ClassFile.FieldType.int)) ∈ gw := gwT (tb4 (List.mem_of_getElem? (i := 233) rfl)) rfl
theorem wd_954 : (Jvm.Cond.methodLink "SinLenses$Paper" (81 : Nat) ({ cls := "SinLenses$Paper", name := "findScenes", desc := "(LSinLenses$Parish;)I" } : Jvm.MethodName)) ∈ gw := gwT (tb4 (List.mem_of_getElem? (i := 234) rfl)) rfl
theorem wd_956 : (Jvm.Cond.instanceMethod ({ cls := "SinLenses$Paper", name := "findScenes", desc := "(LSinLenses$Parish;)I" } : Jvm.MethodName)) ∈ gw := gwT (tb4 (List.mem_of_getElem? (i := 236) rfl)) rfl
theorem wd_957 : (Jvm.Cond.code ({ cls := "SinLenses$Paper", name := "findScenes", desc := "(LSinLenses$Parish;)I" } : Jvm.MethodName) prog_6_method_6_code (4 : Nat) (Option.some Jvm.ClassFile.FieldType.int)) ∈ gw := gwT (tb4 (List.mem_of_getElem? (i := 237) rfl)) rfl
theorem wd_958 : (Jvm.Cond.methodLink "SinLenses$Paper" (85 : Nat) ({ cls := "SinLenses$Paper", name := "agrees", desc := "(LSinLenses$Parish;I)Z" } : Jvm.MethodName)) ∈ gw := gwT (tb4 (List.mem_of_getElem? (i := 238) rfl)) rfl
theorem wd_959 : (Jvm.Cond.static ({ cls := "SinLenses$Paper", name := "agrees", desc := "(LSinLenses$Parish;I)Z" } : Jvm.MethodName)) ∈ gw := gwT (tb4 (List.mem_of_getElem? (i := 239) rfl)) rfl
theorem wd_960 : (Jvm.Cond.code ({ cls := "SinLenses$Paper", name := "agrees", desc := "(LSinLenses$Parish;I)Z" } : Jvm.MethodName) prog_6_method_7_code (4 : Nat) (Option.some Jvm.ClassFile.FieldType.boolean)) ∈ gw := gwT (tb5 (List.mem_of_getElem? (i := 0) rfl)) rfl
theorem wn_961 : (Jvm.Cond.methodLinkNest "SinLenses$Paper" (96 : Nat) ({ cls := "SinLenses$Parish", name := "glassOf", desc := "(I)I" } : Jvm.MethodName) "SinLenses") ∈ tables_1 := tb5 (List.mem_of_getElem? (i := 1) rfl)
theorem wn_962 : (Jvm.Cond.methodLinkNest "SinLenses$Paper" (99 : Nat) ({ cls := "SinLenses$Optics", name := "through", desc := "(II)I" } : Jvm.MethodName) "SinLenses") ∈ tables_1 := tb5 (List.mem_of_getElem? (i := 2) rfl)
theorem wd_963 : (Jvm.Cond.methodLink "SinLensesLaw" (122 : Nat) ({ cls := "SinLenses", name := "ask", desc := "(I)I" } : Jvm.MethodName)) ∈ gw := gwT (tb5 (List.mem_of_getElem? (i := 3) rfl)) rfl
theorem wd_964 : (Jvm.Cond.instanceMethod ({ cls := "SinLenses", name := "ask", desc := "(I)I" } : Jvm.MethodName)) ∈ gw := gwT (tb5 (List.mem_of_getElem? (i := 4) rfl)) rfl
theorem wd_965 : (Jvm.Cond.selects "SinLenses" ({ cls := "SinLenses", name := "ask", desc := "(I)I" } : Jvm.MethodName) ({ cls := "SinLenses", name := "ask", desc := "(I)I" } : Jvm.MethodName)) ∈ gw := gwT (tb5 (List.mem_of_getElem? (i := 5) rfl)) rfl
theorem wd_966 : (Jvm.Cond.code ({ cls := "SinLenses", name := "ask", desc := "(I)I" } : Jvm.MethodName) prog_1_method_29_code (2 : Nat) (Option.some Jvm.ClassFile.FieldType.int)) ∈ gw := gwT (tb5 (List.mem_of_getElem? (i := 6) rfl)) rfl
theorem wn_967 : (Jvm.Cond.methodLinkNest "SinLenses" (266 : Nat) ({ cls := "SinLenses$Paper", name := "toAsk", desc := "(LSinLenses$Parish;Z)I" } : Jvm.MethodName) "SinLenses") ∈ tables_1 := tb5 (List.mem_of_getElem? (i := 7) rfl)
theorem wd_969 : (Jvm.Cond.instanceMethod ({ cls := "SinLenses$Paper", name := "toAsk", desc := "(LSinLenses$Parish;Z)I" } : Jvm.MethodName)) ∈ gw := gwT (tb5 (List.mem_of_getElem? (i := 9) rfl)) rfl
theorem wd_970 : (Jvm.Cond.code ({ cls := "SinLenses$Paper", name := "toAsk", desc := "(LSinLenses$Parish;Z)I" } : Jvm.MethodName) prog_6_method_8_code (8 : Nat) (Option.some Jvm.ClassFile.FieldType.int)) ∈ gw := gwT (tb5 (List.mem_of_getElem? (i := 10) rfl)) rfl
theorem wd_971 : (Jvm.Cond.methodLink "SinLenses$Paper" (108 : Nat) ({ cls := "SinLenses$Paper", name := "mostAlike", desc := "(II)I" } : Jvm.MethodName)) ∈ gw := gwT (tb5 (List.mem_of_getElem? (i := 11) rfl)) rfl
theorem wd_973 : (Jvm.Cond.instanceMethod ({ cls := "SinLenses$Paper", name := "mostAlike", desc := "(II)I" } : Jvm.MethodName)) ∈ gw := gwT (tb5 (List.mem_of_getElem? (i := 13) rfl)) rfl
theorem wd_974 : (Jvm.Cond.code ({ cls := "SinLenses$Paper", name := "mostAlike", desc := "(II)I" } : Jvm.MethodName) prog_6_method_9_code (6 : Nat) (Option.some Jvm.ClassFile.FieldType.int)) ∈ gw := gwT (tb5 (List.mem_of_getElem? (i := 14) rfl)) rfl
theorem wd_975 : (Jvm.Cond.methodLink "SinLenses$Paper" (111 : Nat) ({ cls := "java/lang/Math", name := "max", desc := "(II)I" } : Jvm.MethodName)) ∈ gw := gwT (tb5 (List.mem_of_getElem? (i := 15) rfl)) rfl
theorem wd_976 : (Jvm.Cond.methodLink "SinLensesLaw" (126 : Nat) ({ cls := "SinLenses", name := "mixed", desc := "(I)I" } : Jvm.MethodName)) ∈ gw := gwT (tb5 (List.mem_of_getElem? (i := 16) rfl)) rfl
theorem wd_977 : (Jvm.Cond.instanceMethod ({ cls := "SinLenses", name := "mixed", desc := "(I)I" } : Jvm.MethodName)) ∈ gw := gwT (tb5 (List.mem_of_getElem? (i := 17) rfl)) rfl
theorem wd_978 : (Jvm.Cond.selects "SinLenses" ({ cls := "SinLenses", name := "mixed", desc := "(I)I" } : Jvm.MethodName) ({ cls := "SinLenses", name := "mixed", desc := "(I)I" } : Jvm.MethodName)) ∈ gw := gwT (tb5 (List.mem_of_getElem? (i := 18) rfl)) rfl
theorem wd_979 : (Jvm.Cond.code ({ cls := "SinLenses", name := "mixed", desc := "(I)I" } : Jvm.MethodName) prog_1_method_30_code (2 : Nat) (Option.some Jvm.ClassFile.FieldType.int)) ∈ gw := gwT (tb5 (List.mem_of_getElem? (i := 19) rfl)) rfl
theorem wn_980 : (Jvm.Cond.methodLinkNest "SinLenses" (270 : Nat) ({ cls := "SinLenses$Paper", name := "mixedAt", desc := "(LSinLenses$Parish;I)I" } : Jvm.MethodName) "SinLenses") ∈ tables_1 := tb5 (List.mem_of_getElem? (i := 20) rfl)
theorem wd_982 : (Jvm.Cond.instanceMethod ({ cls := "SinLenses$Paper", name := "mixedAt", desc := "(LSinLenses$Parish;I)I" } : Jvm.MethodName)) ∈ gw := gwT (tb5 (List.mem_of_getElem? (i := 22) rfl)) rfl
theorem wd_983 : (Jvm.Cond.code ({ cls := "SinLenses$Paper", name := "mixedAt", desc := "(LSinLenses$Parish;I)I" } : Jvm.MethodName) prog_6_method_10_code (6 : Nat) (Option.some Jvm.ClassFile.FieldType.int)) ∈ gw := gwT (tb5 (List.mem_of_getElem? (i := 23) rfl)) rfl
theorem wd_984 : (Jvm.Cond.methodLink "SinLenses$Paper" (116 : Nat) ({ cls := "SinLenses$Paper", name := "explains", desc := "(LSinLenses$Parish;II)Z" } : Jvm.MethodName)) ∈ gw := gwT (tb5 (List.mem_of_getElem? (i := 24) rfl)) rfl
theorem wd_985 : (Jvm.Cond.static ({ cls := "SinLenses$Paper", name := "explains", desc := "(LSinLenses$Parish;II)Z" } : Jvm.MethodName)) ∈ gw := gwT (tb5 (List.mem_of_getElem? (i := 25) rfl)) rfl
theorem wd_986 : (Jvm.Cond.code ({ cls := "SinLenses$Paper", name := "explains", desc := "(LSinLenses$Parish;II)Z" } : Jvm.MethodName) prog_6_method_11_code (6 : Nat) (Option.some Jvm.ClassFile.FieldType.boolean)) ∈ gw := gwT (tb5 (List.mem_of_getElem? (i := 26) rfl)) rfl
theorem wd_987 : (Jvm.Cond.methodLink "SinLensesLaw" (130 : Nat) ({ cls := "SinLenses", name := "fitted", desc := "(I)I" } : Jvm.MethodName)) ∈ gw := gwT (tb5 (List.mem_of_getElem? (i := 27) rfl)) rfl
theorem wd_988 : (Jvm.Cond.instanceMethod ({ cls := "SinLenses", name := "fitted", desc := "(I)I" } : Jvm.MethodName)) ∈ gw := gwT (tb5 (List.mem_of_getElem? (i := 28) rfl)) rfl
theorem wd_989 : (Jvm.Cond.selects "SinLenses" ({ cls := "SinLenses", name := "fitted", desc := "(I)I" } : Jvm.MethodName) ({ cls := "SinLenses", name := "fitted", desc := "(I)I" } : Jvm.MethodName)) ∈ gw := gwT (tb5 (List.mem_of_getElem? (i := 29) rfl)) rfl
theorem wd_990 : (Jvm.Cond.code ({ cls := "SinLenses", name := "fitted", desc := "(I)I" } : Jvm.MethodName) prog_1_method_31_code (2 : Nat) (Option.some Jvm.ClassFile.FieldType.int)) ∈ gw := gwT (tb5 (List.mem_of_getElem? (i := 30) rfl)) rfl
theorem wn_991 : (Jvm.Cond.methodLinkNest "SinLenses" (273 : Nat) ({ cls := "SinLenses$Paper", name := "fit", desc := "(LSinLenses$Parish;I)I" } : Jvm.MethodName) "SinLenses") ∈ tables_1 := tb5 (List.mem_of_getElem? (i := 31) rfl)
theorem wd_993 : (Jvm.Cond.instanceMethod ({ cls := "SinLenses$Paper", name := "fit", desc := "(LSinLenses$Parish;I)I" } : Jvm.MethodName)) ∈ gw := gwT (tb5 (List.mem_of_getElem? (i := 33) rfl)) rfl
theorem wd_994 : (Jvm.Cond.code ({ cls := "SinLenses$Paper", name := "fit", desc := "(LSinLenses$Parish;I)I" } : Jvm.MethodName) prog_6_method_12_code (7 : Nat) (Option.some Jvm.ClassFile.FieldType.int)) ∈ gw := gwT (tb5 (List.mem_of_getElem? (i := 34) rfl)) rfl
theorem wd_995 : (Jvm.Cond.methodLink "SinLenses$Paper" (120 : Nat) ({ cls := "java/lang/Math", name := "min", desc := "(II)I" } : Jvm.MethodName)) ∈ gw := gwT (tb5 (List.mem_of_getElem? (i := 35) rfl)) rfl
theorem wd_996 : (Jvm.Cond.methodLink "SinLenses$Paper" (123 : Nat) ({ cls := "SinLenses$Paper", name := "learnFits", desc := "(LSinLenses$Parish;I)V" } : Jvm.MethodName)) ∈ gw := gwT (tb5 (List.mem_of_getElem? (i := 36) rfl)) rfl
theorem wd_998 : (Jvm.Cond.instanceMethod ({ cls := "SinLenses$Paper", name := "learnFits", desc := "(LSinLenses$Parish;I)V" } : Jvm.MethodName)) ∈ gw := gwT (tb5 (List.mem_of_getElem? (i := 38) rfl)) rfl
theorem wd_999 : (Jvm.Cond.code ({ cls := "SinLenses$Paper", name := "learnFits", desc := "(LSinLenses$Parish;I)V" } : Jvm.MethodName) prog_6_method_13_code (6 : Nat) (Option.none : Option Jvm.ClassFile.FieldType)) ∈ gw := gwT (tb5 (List.mem_of_getElem? (i := 39) rfl)) rfl
theorem wn_1000 : (Jvm.Cond.methodLinkNest "SinLenses$Paper" (134 : Nat) ({ cls := "SinLenses$Judge", name := "deed", desc := "(LSinLenses$Parish;II)I" } : Jvm.MethodName) "SinLenses") ∈ tables_1 := tb5 (List.mem_of_getElem? (i := 40) rfl)
theorem wn_1001 : (Jvm.Cond.methodLinkNest "SinLenses$Paper" (138 : Nat) ({ cls := "SinLenses$Parish", name := "wantedOf", desc := "(I)I" } : Jvm.MethodName) "SinLenses") ∈ tables_1 := tb5 (List.mem_of_getElem? (i := 41) rfl)
theorem wd_1002 : (Jvm.Cond.methodLink "SinLenses$Paper" (127 : Nat) ({ cls := "SinLenses$Paper", name := "learnBest", desc := "(I)V" } : Jvm.MethodName)) ∈ gw := gwT (tb5 (List.mem_of_getElem? (i := 42) rfl)) rfl
theorem wd_1004 : (Jvm.Cond.instanceMethod ({ cls := "SinLenses$Paper", name := "learnBest", desc := "(I)V" } : Jvm.MethodName)) ∈ gw := gwT (tb5 (List.mem_of_getElem? (i := 44) rfl)) rfl
theorem wd_1005 : (Jvm.Cond.code ({ cls := "SinLenses$Paper", name := "learnBest", desc := "(I)V" } : Jvm.MethodName) prog_6_method_14_code (6 : Nat) (Option.none : Option Jvm.ClassFile.FieldType)) ∈ gw := gwT (tb5 (List.mem_of_getElem? (i := 45) rfl)) rfl
theorem wd_1006 : (Jvm.Cond.methodLink "SinLenses$Paper" (141 : Nat) ({ cls := "java/lang/Integer", name := "bitCount", desc := "(I)I" } : Jvm.MethodName)) ∈ gw := gwT (tb5 (List.mem_of_getElem? (i := 46) rfl)) rfl
theorem wd_1007 : (Jvm.Cond.static ({ cls := "java/lang/Integer", name := "bitCount", desc := "(I)I" } : Jvm.MethodName)) ∈ gw := gwT (tb5 (List.mem_of_getElem? (i := 47) rfl)) rfl
theorem wd_1008 : (Jvm.Cond.code ({ cls := "java/lang/Integer", name := "bitCount", desc := "(I)I" } : Jvm.MethodName) prog_14_method_49_code (1 : Nat) (Option.some Jvm.ClassFile.FieldType.int)) ∈ gw := gwT (tb5 (List.mem_of_getElem? (i := 48) rfl)) rfl
theorem wd_1009 : (Jvm.Cond.constant "java/lang/Integer" (265 : Nat) (1431655765 : Int32)) ∈ gw := gwT (tb5 (List.mem_of_getElem? (i := 49) rfl)) rfl
theorem wd_1010 : (Jvm.Cond.constant "java/lang/Integer" (266 : Nat) (858993459 : Int32)) ∈ gw := gwT (tb5 (List.mem_of_getElem? (i := 50) rfl)) rfl
theorem wd_1011 : (Jvm.Cond.constant "java/lang/Integer" (267 : Nat) (252645135 : Int32)) ∈ gw := gwT (tb5 (List.mem_of_getElem? (i := 51) rfl)) rfl
theorem wd_1012 : (Jvm.Cond.methodLink "SinLenses$Paper" (146 : Nat) ({ cls := "SinLenses$Paper", name := "bestWith", desc := "(III)I" } : Jvm.MethodName)) ∈ gw := gwT (tb5 (List.mem_of_getElem? (i := 52) rfl)) rfl
theorem wd_1014 : (Jvm.Cond.instanceMethod ({ cls := "SinLenses$Paper", name := "bestWith", desc := "(III)I" } : Jvm.MethodName)) ∈ gw := gwT (tb5 (List.mem_of_getElem? (i := 54) rfl)) rfl
theorem wd_1015 : (Jvm.Cond.code ({ cls := "SinLenses$Paper", name := "bestWith", desc := "(III)I" } : Jvm.MethodName) prog_6_method_15_code (6 : Nat) (Option.some Jvm.ClassFile.FieldType.int)) ∈ gw := gwT (tb5 (List.mem_of_getElem? (i := 55) rfl)) rfl
theorem wd_1016 : (Jvm.Cond.methodLink "SinLenses$Paper" (130 : Nat) ({ cls := "SinLenses$Paper", name := "firstBest", desc := "(III)I" } : Jvm.MethodName)) ∈ gw := gwT (tb5 (List.mem_of_getElem? (i := 56) rfl)) rfl
theorem wd_1018 : (Jvm.Cond.instanceMethod ({ cls := "SinLenses$Paper", name := "firstBest", desc := "(III)I" } : Jvm.MethodName)) ∈ gw := gwT (tb5 (List.mem_of_getElem? (i := 58) rfl)) rfl
theorem wd_1019 : (Jvm.Cond.code ({ cls := "SinLenses$Paper", name := "firstBest", desc := "(III)I" } : Jvm.MethodName) prog_6_method_16_code (5 : Nat) (Option.some Jvm.ClassFile.FieldType.int)) ∈ gw := gwT (tb5 (List.mem_of_getElem? (i := 59) rfl)) rfl
theorem wd_1020 : (Jvm.Cond.methodLink "SinLensesLaw" (134 : Nat) ({ cls := "SinLenses", name := "come", desc := "(III)I" } : Jvm.MethodName)) ∈ gw := gwT (tb5 (List.mem_of_getElem? (i := 60) rfl)) rfl
theorem wd_1021 : (Jvm.Cond.instanceMethod ({ cls := "SinLenses", name := "come", desc := "(III)I" } : Jvm.MethodName)) ∈ gw := gwT (tb5 (List.mem_of_getElem? (i := 61) rfl)) rfl
theorem wd_1022 : (Jvm.Cond.selects "SinLenses" ({ cls := "SinLenses", name := "come", desc := "(III)I" } : Jvm.MethodName) ({ cls := "SinLenses", name := "come", desc := "(III)I" } : Jvm.MethodName)) ∈ gw := gwT (tb5 (List.mem_of_getElem? (i := 62) rfl)) rfl
theorem wd_1023 : (Jvm.Cond.code ({ cls := "SinLenses", name := "come", desc := "(III)I" } : Jvm.MethodName) prog_1_method_32_code (4 : Nat) (Option.some Jvm.ClassFile.FieldType.int)) ∈ gw := gwT (tb5 (List.mem_of_getElem? (i := 63) rfl)) rfl
theorem wn_1024 : (Jvm.Cond.methodLinkNest "SinLenses" (276 : Nat) ({ cls := "SinLenses$Paper", name := "sinsBehind", desc := "(LSinLenses$Parish;III)I" } : Jvm.MethodName) "SinLenses") ∈ tables_1 := tb5 (List.mem_of_getElem? (i := 64) rfl)
theorem wd_1026 : (Jvm.Cond.instanceMethod ({ cls := "SinLenses$Paper", name := "sinsBehind", desc := "(LSinLenses$Parish;III)I" } : Jvm.MethodName)) ∈ gw := gwT (tb5 (List.mem_of_getElem? (i := 66) rfl)) rfl
theorem wd_1027 : (Jvm.Cond.code ({ cls := "SinLenses$Paper", name := "sinsBehind", desc := "(LSinLenses$Parish;III)I" } : Jvm.MethodName) prog_6_method_17_code (8 : Nat) (Option.some Jvm.ClassFile.FieldType.int)) ∈ gw := gwT (tb5 (List.mem_of_getElem? (i := 67) rfl)) rfl
theorem wn_1028 : (Jvm.Cond.methodLinkNest "SinLenses$Paper" (149 : Nat) ({ cls := "SinLenses$Parish", name := "sinOf", desc := "(II)I" } : Jvm.MethodName) "SinLenses") ∈ tables_1 := tb5 (List.mem_of_getElem? (i := 68) rfl)
theorem wn_1029 : (Jvm.Cond.methodLinkNest "SinLenses$Paper" (152 : Nat) ({ cls := "SinLenses$Parish", name := "setSin", desc := "(III)V" } : Jvm.MethodName) "SinLenses") ∈ tables_1 := tb5 (List.mem_of_getElem? (i := 69) rfl)
theorem wn_1030 : (Jvm.Cond.methodLinkNest "SinLenses$Paper" (156 : Nat) ({ cls := "SinLenses$Parish", name := "lawInForce", desc := "()LSinLenses$Text;" } : Jvm.MethodName) "SinLenses") ∈ tables_1 := tb5 (List.mem_of_getElem? (i := 70) rfl)
theorem wn_1031 : (Jvm.Cond.methodLinkNest "SinLenses$Paper" (160 : Nat) ({ cls := "SinLenses$Judge", name := "lensFor", desc := "(LSinLenses$Parish;LSinLenses$Text;II)I" } : Jvm.MethodName) "SinLenses") ∈ tables_1 := tb5 (List.mem_of_getElem? (i := 71) rfl)
theorem wd_1032 : (Jvm.Cond.methodLink "SinLensesLaw" (138 : Nat) ({ cls := "SinLenses", name := "idle", desc := "(II)I" } : Jvm.MethodName)) ∈ gw := gwT (tb5 (List.mem_of_getElem? (i := 72) rfl)) rfl
theorem wd_1033 : (Jvm.Cond.instanceMethod ({ cls := "SinLenses", name := "idle", desc := "(II)I" } : Jvm.MethodName)) ∈ gw := gwT (tb5 (List.mem_of_getElem? (i := 73) rfl)) rfl
theorem wd_1034 : (Jvm.Cond.selects "SinLenses" ({ cls := "SinLenses", name := "idle", desc := "(II)I" } : Jvm.MethodName) ({ cls := "SinLenses", name := "idle", desc := "(II)I" } : Jvm.MethodName)) ∈ gw := gwT (tb5 (List.mem_of_getElem? (i := 74) rfl)) rfl
theorem wd_1035 : (Jvm.Cond.code ({ cls := "SinLenses", name := "idle", desc := "(II)I" } : Jvm.MethodName) prog_1_method_33_code (3 : Nat) (Option.some Jvm.ClassFile.FieldType.int)) ∈ gw := gwT (tb5 (List.mem_of_getElem? (i := 75) rfl)) rfl
theorem wn_1036 : (Jvm.Cond.methodLinkNest "SinLenses" (280 : Nat) ({ cls := "SinLenses$Paper", name := "idleAt", desc := "(II)I" } : Jvm.MethodName) "SinLenses") ∈ tables_1 := tb5 (List.mem_of_getElem? (i := 76) rfl)
theorem wd_1038 : (Jvm.Cond.instanceMethod ({ cls := "SinLenses$Paper", name := "idleAt", desc := "(II)I" } : Jvm.MethodName)) ∈ gw := gwT (tb5 (List.mem_of_getElem? (i := 78) rfl)) rfl
theorem wd_1039 : (Jvm.Cond.code ({ cls := "SinLenses$Paper", name := "idleAt", desc := "(II)I" } : Jvm.MethodName) prog_6_method_18_code (3 : Nat) (Option.some Jvm.ClassFile.FieldType.int)) ∈ gw := gwT (tb5 (List.mem_of_getElem? (i := 79) rfl)) rfl
theorem wd_1040 : (Jvm.Cond.methodLink "SinLenses$Paper" (164 : Nat) ({ cls := "SinLenses$Paper", name := "findIdle", desc := "(I)V" } : Jvm.MethodName)) ∈ gw := gwT (tb5 (List.mem_of_getElem? (i := 80) rfl)) rfl
theorem wd_1042 : (Jvm.Cond.instanceMethod ({ cls := "SinLenses$Paper", name := "findIdle", desc := "(I)V" } : Jvm.MethodName)) ∈ gw := gwT (tb5 (List.mem_of_getElem? (i := 82) rfl)) rfl
theorem wd_1043 : (Jvm.Cond.code ({ cls := "SinLenses$Paper", name := "findIdle", desc := "(I)V" } : Jvm.MethodName) prog_6_method_19_code (7 : Nat) (Option.none : Option Jvm.ClassFile.FieldType)) ∈ gw := gwT (tb5 (List.mem_of_getElem? (i := 83) rfl)) rfl
theorem wd_1044 : (Jvm.Cond.methodLink "SinLenses$Paper" (167 : Nat) ({ cls := "SinLenses$Paper", name := "rowOf", desc := "(II)I" } : Jvm.MethodName)) ∈ gw := gwT (tb5 (List.mem_of_getElem? (i := 84) rfl)) rfl
theorem wd_1045 : (Jvm.Cond.static ({ cls := "SinLenses$Paper", name := "rowOf", desc := "(II)I" } : Jvm.MethodName)) ∈ gw := gwT (tb5 (List.mem_of_getElem? (i := 85) rfl)) rfl
theorem wd_1046 : (Jvm.Cond.code ({ cls := "SinLenses$Paper", name := "rowOf", desc := "(II)I" } : Jvm.MethodName) prog_6_method_20_code (6 : Nat) (Option.some Jvm.ClassFile.FieldType.int)) ∈ gw := gwT (tb5 (List.mem_of_getElem? (i := 86) rfl)) rfl
theorem wd_1047 : (Jvm.Cond.methodLink "SinLenses$Paper" (170 : Nat) ({ cls := "SinLenses$Paper", name := "changesNothing", desc := "(I)Z" } : Jvm.MethodName)) ∈ gw := gwT (tb5 (List.mem_of_getElem? (i := 87) rfl)) rfl
theorem wd_1048 : (Jvm.Cond.static ({ cls := "SinLenses$Paper", name := "changesNothing", desc := "(I)Z" } : Jvm.MethodName)) ∈ gw := gwT (tb5 (List.mem_of_getElem? (i := 88) rfl)) rfl
theorem wd_1049 : (Jvm.Cond.code ({ cls := "SinLenses$Paper", name := "changesNothing", desc := "(I)Z" } : Jvm.MethodName) prog_6_method_21_code (2 : Nat) (Option.some Jvm.ClassFile.FieldType.boolean)) ∈ gw := gwT (tb5 (List.mem_of_getElem? (i := 89) rfl)) rfl
theorem wd_1050 : (Jvm.Cond.methodLink "SinLensesLaw" (142 : Nat) ({ cls := "SinLenses", name := "alike", desc := "(I)I" } : Jvm.MethodName)) ∈ gw := gwT (tb5 (List.mem_of_getElem? (i := 90) rfl)) rfl
theorem wd_1051 : (Jvm.Cond.instanceMethod ({ cls := "SinLenses", name := "alike", desc := "(I)I" } : Jvm.MethodName)) ∈ gw := gwT (tb5 (List.mem_of_getElem? (i := 91) rfl)) rfl
theorem wd_1052 : (Jvm.Cond.selects "SinLenses" ({ cls := "SinLenses", name := "alike", desc := "(I)I" } : Jvm.MethodName) ({ cls := "SinLenses", name := "alike", desc := "(I)I" } : Jvm.MethodName)) ∈ gw := gwT (tb5 (List.mem_of_getElem? (i := 92) rfl)) rfl
theorem wd_1053 : (Jvm.Cond.code ({ cls := "SinLenses", name := "alike", desc := "(I)I" } : Jvm.MethodName) prog_1_method_34_code (5 : Nat) (Option.some Jvm.ClassFile.FieldType.int)) ∈ gw := gwT (tb5 (List.mem_of_getElem? (i := 93) rfl)) rfl
theorem wd_1054 : (Jvm.Cond.methodLink "SinLensesLaw" (146 : Nat) ({ cls := "SinLenses", name := "ground", desc := "(II)I" } : Jvm.MethodName)) ∈ gw := gwT (tb5 (List.mem_of_getElem? (i := 94) rfl)) rfl
theorem wd_1055 : (Jvm.Cond.instanceMethod ({ cls := "SinLenses", name := "ground", desc := "(II)I" } : Jvm.MethodName)) ∈ gw := gwT (tb5 (List.mem_of_getElem? (i := 95) rfl)) rfl
theorem wd_1056 : (Jvm.Cond.selects "SinLenses" ({ cls := "SinLenses", name := "ground", desc := "(II)I" } : Jvm.MethodName) ({ cls := "SinLenses", name := "ground", desc := "(II)I" } : Jvm.MethodName)) ∈ gw := gwT (tb5 (List.mem_of_getElem? (i := 96) rfl)) rfl
theorem wd_1057 : (Jvm.Cond.code ({ cls := "SinLenses", name := "ground", desc := "(II)I" } : Jvm.MethodName) prog_1_method_35_code (3 : Nat) (Option.some Jvm.ClassFile.FieldType.int)) ∈ gw := gwT (tb5 (List.mem_of_getElem? (i := 97) rfl)) rfl
theorem wn_1058 : (Jvm.Cond.methodLinkNest "SinLenses" (283 : Nat) ({ cls := "SinLenses$Parish", name := "lawAt", desc := "(I)LSinLenses$Text;" } : Jvm.MethodName) "SinLenses") ∈ tables_1 := tb5 (List.mem_of_getElem? (i := 98) rfl)
theorem wn_1059 : (Jvm.Cond.methodLinkNest "SinLenses" (287 : Nat) ({ cls := "SinLenses$Judge", name := "glassBy", desc := "(LSinLenses$Parish;LSinLenses$Text;I)I" } : Jvm.MethodName) "SinLenses") ∈ tables_1 := tb5 (List.mem_of_getElem? (i := 99) rfl)
theorem wd_1060 : (Jvm.Cond.methodLink "SinLensesLaw" (150 : Nat) ({ cls := "SinLenses", name := "mildest", desc := "(I)I" } : Jvm.MethodName)) ∈ gw := gwT (tb5 (List.mem_of_getElem? (i := 100) rfl)) rfl
theorem wd_1061 : (Jvm.Cond.instanceMethod ({ cls := "SinLenses", name := "mildest", desc := "(I)I" } : Jvm.MethodName)) ∈ gw := gwT (tb5 (List.mem_of_getElem? (i := 101) rfl)) rfl
theorem wd_1062 : (Jvm.Cond.selects "SinLenses" ({ cls := "SinLenses", name := "mildest", desc := "(I)I" } : Jvm.MethodName) ({ cls := "SinLenses", name := "mildest", desc := "(I)I" } : Jvm.MethodName)) ∈ gw := gwT (tb5 (List.mem_of_getElem? (i := 102) rfl)) rfl
theorem wd_1063 : (Jvm.Cond.code ({ cls := "SinLenses", name := "mildest", desc := "(I)I" } : Jvm.MethodName) prog_1_method_36_code (2 : Nat) (Option.some Jvm.ClassFile.FieldType.int)) ∈ gw := gwT (tb5 (List.mem_of_getElem? (i := 103) rfl)) rfl
theorem wn_1064 : (Jvm.Cond.methodLinkNest "SinLenses" (291 : Nat) ({ cls := "SinLenses$Paper", name := "mildestFor", desc := "(LSinLenses$Parish;I)I" } : Jvm.MethodName) "SinLenses") ∈ tables_1 := tb5 (List.mem_of_getElem? (i := 104) rfl)
theorem wd_1066 : (Jvm.Cond.instanceMethod ({ cls := "SinLenses$Paper", name := "mildestFor", desc := "(LSinLenses$Parish;I)I" } : Jvm.MethodName)) ∈ gw := gwT (tb5 (List.mem_of_getElem? (i := 106) rfl)) rfl
theorem wd_1067 : (Jvm.Cond.code ({ cls := "SinLenses$Paper", name := "mildestFor", desc := "(LSinLenses$Parish;I)I" } : Jvm.MethodName) prog_6_method_22_code (6 : Nat) (Option.some Jvm.ClassFile.FieldType.int)) ∈ gw := gwT (tb5 (List.mem_of_getElem? (i := 107) rfl)) rfl
theorem wd_1068 : (Jvm.Cond.methodLink "SinLenses$Paper" (173 : Nat) ({ cls := "SinLenses$Paper", name := "suits", desc := "(LSinLenses$Parish;II)Z" } : Jvm.MethodName)) ∈ gw := gwT (tb5 (List.mem_of_getElem? (i := 108) rfl)) rfl
theorem wd_1070 : (Jvm.Cond.instanceMethod ({ cls := "SinLenses$Paper", name := "suits", desc := "(LSinLenses$Parish;II)Z" } : Jvm.MethodName)) ∈ gw := gwT (tb5 (List.mem_of_getElem? (i := 110) rfl)) rfl
theorem wd_1071 : (Jvm.Cond.code ({ cls := "SinLenses$Paper", name := "suits", desc := "(LSinLenses$Parish;II)Z" } : Jvm.MethodName) prog_6_method_23_code (5 : Nat) (Option.some Jvm.ClassFile.FieldType.boolean)) ∈ gw := gwT (tb5 (List.mem_of_getElem? (i := 111) rfl)) rfl
theorem wd_1072 : (Jvm.Cond.methodLink "SinLensesLaw" (154 : Nat) ({ cls := "SinLenses", name := "weaker", desc := "(II)J" } : Jvm.MethodName)) ∈ gw := gwT (tb5 (List.mem_of_getElem? (i := 112) rfl)) rfl
theorem wd_1073 : (Jvm.Cond.instanceMethod ({ cls := "SinLenses", name := "weaker", desc := "(II)J" } : Jvm.MethodName)) ∈ gw := gwT (tb5 (List.mem_of_getElem? (i := 113) rfl)) rfl
theorem wd_1074 : (Jvm.Cond.selects "SinLenses" ({ cls := "SinLenses", name := "weaker", desc := "(II)J" } : Jvm.MethodName) ({ cls := "SinLenses", name := "weaker", desc := "(II)J" } : Jvm.MethodName)) ∈ gw := gwT (tb5 (List.mem_of_getElem? (i := 114) rfl)) rfl
theorem wd_1075 : (Jvm.Cond.code ({ cls := "SinLenses", name := "weaker", desc := "(II)J" } : Jvm.MethodName) prog_1_method_37_code (3 : Nat) (Option.some Jvm.ClassFile.FieldType.long)) ∈ gw := gwT (tb5 (List.mem_of_getElem? (i := 115) rfl)) rfl
theorem wd_1076 : (Jvm.Cond.constantLong "SinLenses" (294 : Nat) (-1 : Int64)) ∈ gw := gwT (tb5 (List.mem_of_getElem? (i := 116) rfl)) rfl
theorem wn_1077 : (Jvm.Cond.methodLinkNest "SinLenses" (296 : Nat) ({ cls := "SinLenses$Paper", name := "chance", desc := "(III)J" } : Jvm.MethodName) "SinLenses") ∈ tables_1 := tb5 (List.mem_of_getElem? (i := 117) rfl)
theorem wd_1079 : (Jvm.Cond.instanceMethod ({ cls := "SinLenses$Paper", name := "chance", desc := "(III)J" } : Jvm.MethodName)) ∈ gw := gwT (tb5 (List.mem_of_getElem? (i := 119) rfl)) rfl
theorem wd_1080 : (Jvm.Cond.code ({ cls := "SinLenses$Paper", name := "chance", desc := "(III)J" } : Jvm.MethodName) prog_6_method_24_code (6 : Nat) (Option.some Jvm.ClassFile.FieldType.long)) ∈ gw := gwT (tb5 (List.mem_of_getElem? (i := 120) rfl)) rfl
theorem wd_1081 : (Jvm.Cond.constantLong "SinLenses$Paper" (176 : Nat) (-1 : Int64)) ∈ gw := gwT (tb5 (List.mem_of_getElem? (i := 121) rfl)) rfl
theorem wd_1082 : (Jvm.Cond.constantLong "SinLenses$Paper" (178 : Nat) (1000000000000 : Int64)) ∈ gw := gwT (tb5 (List.mem_of_getElem? (i := 122) rfl)) rfl
theorem wd_1083 : (Jvm.Cond.constantLong "SinLenses$Paper" (180 : Nat) (10 : Int64)) ∈ gw := gwT (tb5 (List.mem_of_getElem? (i := 123) rfl)) rfl
theorem wd_1084 : (Jvm.Cond.methodLink "SinLensesLaw" (159 : Nat) ({ cls := "SinLenses", name := "months", desc := "(II)I" } : Jvm.MethodName)) ∈ gw := gwT (tb5 (List.mem_of_getElem? (i := 124) rfl)) rfl
theorem wd_1085 : (Jvm.Cond.instanceMethod ({ cls := "SinLenses", name := "months", desc := "(II)I" } : Jvm.MethodName)) ∈ gw := gwT (tb5 (List.mem_of_getElem? (i := 125) rfl)) rfl
theorem wd_1086 : (Jvm.Cond.selects "SinLenses" ({ cls := "SinLenses", name := "months", desc := "(II)I" } : Jvm.MethodName) ({ cls := "SinLenses", name := "months", desc := "(II)I" } : Jvm.MethodName)) ∈ gw := gwT (tb5 (List.mem_of_getElem? (i := 126) rfl)) rfl
theorem wd_1087 : (Jvm.Cond.code ({ cls := "SinLenses", name := "months", desc := "(II)I" } : Jvm.MethodName) prog_1_method_38_code (3 : Nat) (Option.some Jvm.ClassFile.FieldType.int)) ∈ gw := gwT (tb5 (List.mem_of_getElem? (i := 127) rfl)) rfl
theorem wd_1088 : (Jvm.Cond.constant "SinLenses" (300 : Nat) (1000000 : Int32)) ∈ gw := gwT (tb5 (List.mem_of_getElem? (i := 128) rfl)) rfl
theorem wn_1089 : (Jvm.Cond.methodLinkNest "SinLenses" (301 : Nat) ({ cls := "SinLenses$Parish", name := "copyFrom", desc := "(LSinLenses$Parish;)V" } : Jvm.MethodName) "SinLenses") ∈ tables_1 := tb5 (List.mem_of_getElem? (i := 129) rfl)
theorem wn_1090 : (Jvm.Cond.methodLinkNest "SinLenses" (305 : Nat) ({ cls := "SinLenses$Deeds", name := "drawDays", desc := "(LSinLenses$Parish;II)I" } : Jvm.MethodName) "SinLenses") ∈ tables_1 := tb5 (List.mem_of_getElem? (i := 130) rfl)
theorem wd_1092 : (Jvm.Cond.instanceMethod ({ cls := "SinLenses$Deeds", name := "drawDays", desc := "(LSinLenses$Parish;II)I" } : Jvm.MethodName)) ∈ gw := gwT (tb5 (List.mem_of_getElem? (i := 132) rfl)) rfl
theorem wd_1093 : (Jvm.Cond.code ({ cls := "SinLenses$Deeds", name := "drawDays", desc := "(LSinLenses$Parish;II)I" } : Jvm.MethodName) prog_3_method_8_code (11 : Nat) (Option.some Jvm.ClassFile.FieldType.int)) ∈ gw := gwT (tb5 (List.mem_of_getElem? (i := 133) rfl)) rfl
theorem wd_1094 : (Jvm.Cond.methodLink "SinLenses$Deeds" (103 : Nat) ({ cls := "SinLenses$Deeds", name := "drawBehind", desc := "(I)I" } : Jvm.MethodName)) ∈ gw := gwT (tb5 (List.mem_of_getElem? (i := 134) rfl)) rfl
theorem wd_1095 : (Jvm.Cond.static ({ cls := "SinLenses$Deeds", name := "drawBehind", desc := "(I)I" } : Jvm.MethodName)) ∈ gw := gwT (tb5 (List.mem_of_getElem? (i := 135) rfl)) rfl
theorem wd_1096 : (Jvm.Cond.code ({ cls := "SinLenses$Deeds", name := "drawBehind", desc := "(I)I" } : Jvm.MethodName) prog_3_method_9_code (1 : Nat) (Option.some Jvm.ClassFile.FieldType.int)) ∈ gw := gwT (tb5 (List.mem_of_getElem? (i := 136) rfl)) rfl
theorem wd_1097 : (Jvm.Cond.constantLong "SinLenses$Deeds" (106 : Nat) (1103 : Int64)) ∈ gw := gwT (tb5 (List.mem_of_getElem? (i := 137) rfl)) rfl
theorem wd_1098 : (Jvm.Cond.constantLong "SinLenses$Deeds" (108 : Nat) (12345 : Int64)) ∈ gw := gwT (tb5 (List.mem_of_getElem? (i := 138) rfl)) rfl
theorem wd_1099 : (Jvm.Cond.constantLong "SinLenses$Deeds" (110 : Nat) (1000003 : Int64)) ∈ gw := gwT (tb5 (List.mem_of_getElem? (i := 139) rfl)) rfl
theorem wd_1100 : (Jvm.Cond.methodLink "SinLensesLaw" (163 : Nat) ({ cls := "SinLenses", name := "drawn", desc := "(II)I" } : Jvm.MethodName)) ∈ gw := gwT (tb5 (List.mem_of_getElem? (i := 140) rfl)) rfl
theorem wd_1101 : (Jvm.Cond.instanceMethod ({ cls := "SinLenses", name := "drawn", desc := "(II)I" } : Jvm.MethodName)) ∈ gw := gwT (tb5 (List.mem_of_getElem? (i := 141) rfl)) rfl
theorem wd_1102 : (Jvm.Cond.selects "SinLenses" ({ cls := "SinLenses", name := "drawn", desc := "(II)I" } : Jvm.MethodName) ({ cls := "SinLenses", name := "drawn", desc := "(II)I" } : Jvm.MethodName)) ∈ gw := gwT (tb5 (List.mem_of_getElem? (i := 142) rfl)) rfl
theorem wd_1103 : (Jvm.Cond.code ({ cls := "SinLenses", name := "drawn", desc := "(II)I" } : Jvm.MethodName) prog_1_method_39_code (3 : Nat) (Option.some Jvm.ClassFile.FieldType.int)) ∈ gw := gwT (tb5 (List.mem_of_getElem? (i := 143) rfl)) rfl
theorem wd_1104 : (Jvm.Cond.methodLink "SinLensesLaw" (167 : Nat) ({ cls := "SinLenses", name := "image", desc := "(I)I" } : Jvm.MethodName)) ∈ gw := gwT (tb5 (List.mem_of_getElem? (i := 144) rfl)) rfl
theorem wd_1105 : (Jvm.Cond.instanceMethod ({ cls := "SinLenses", name := "image", desc := "(I)I" } : Jvm.MethodName)) ∈ gw := gwT (tb5 (List.mem_of_getElem? (i := 145) rfl)) rfl
theorem wd_1106 : (Jvm.Cond.selects "SinLenses" ({ cls := "SinLenses", name := "image", desc := "(I)I" } : Jvm.MethodName) ({ cls := "SinLenses", name := "image", desc := "(I)I" } : Jvm.MethodName)) ∈ gw := gwT (tb5 (List.mem_of_getElem? (i := 146) rfl)) rfl
theorem wd_1107 : (Jvm.Cond.code ({ cls := "SinLenses", name := "image", desc := "(I)I" } : Jvm.MethodName) prog_1_method_40_code (3 : Nat) (Option.some Jvm.ClassFile.FieldType.int)) ∈ gw := gwT (tb5 (List.mem_of_getElem? (i := 147) rfl)) rfl
theorem wd_1108 : (Jvm.Cond.methodLink "SinLensesLaw" (171 : Nat) ({ cls := "SinLenses", name := "back", desc := "(I)I" } : Jvm.MethodName)) ∈ gw := gwT (tb5 (List.mem_of_getElem? (i := 148) rfl)) rfl
theorem wd_1109 : (Jvm.Cond.instanceMethod ({ cls := "SinLenses", name := "back", desc := "(I)I" } : Jvm.MethodName)) ∈ gw := gwT (tb5 (List.mem_of_getElem? (i := 149) rfl)) rfl
theorem wd_1110 : (Jvm.Cond.selects "SinLenses" ({ cls := "SinLenses", name := "back", desc := "(I)I" } : Jvm.MethodName) ({ cls := "SinLenses", name := "back", desc := "(I)I" } : Jvm.MethodName)) ∈ gw := gwT (tb5 (List.mem_of_getElem? (i := 150) rfl)) rfl
theorem wd_1111 : (Jvm.Cond.code ({ cls := "SinLenses", name := "back", desc := "(I)I" } : Jvm.MethodName) prog_1_method_41_code (3 : Nat) (Option.some Jvm.ClassFile.FieldType.int)) ∈ gw := gwT (tb5 (List.mem_of_getElem? (i := 151) rfl)) rfl
theorem wd_1112 : (Jvm.Cond.methodLink "SinLensesLaw" (175 : Nat) ({ cls := "SinLenses", name := "count", desc := "(I)I" } : Jvm.MethodName)) ∈ gw := gwT (tb5 (List.mem_of_getElem? (i := 152) rfl)) rfl
theorem wd_1113 : (Jvm.Cond.instanceMethod ({ cls := "SinLenses", name := "count", desc := "(I)I" } : Jvm.MethodName)) ∈ gw := gwT (tb5 (List.mem_of_getElem? (i := 153) rfl)) rfl
theorem wd_1114 : (Jvm.Cond.selects "SinLenses" ({ cls := "SinLenses", name := "count", desc := "(I)I" } : Jvm.MethodName) ({ cls := "SinLenses", name := "count", desc := "(I)I" } : Jvm.MethodName)) ∈ gw := gwT (tb5 (List.mem_of_getElem? (i := 154) rfl)) rfl
theorem wd_1115 : (Jvm.Cond.code ({ cls := "SinLenses", name := "count", desc := "(I)I" } : Jvm.MethodName) prog_1_method_42_code (2 : Nat) (Option.some Jvm.ClassFile.FieldType.int)) ∈ gw := gwT (tb5 (List.mem_of_getElem? (i := 155) rfl)) rfl
theorem wn_1116 : (Jvm.Cond.methodLinkNest "SinLenses" (308 : Nat) ({ cls := "SinLenses$Parish", name := "allSins", desc := "()I" } : Jvm.MethodName) "SinLenses") ∈ tables_1 := tb5 (List.mem_of_getElem? (i := 156) rfl)
theorem wd_1118 : (Jvm.Cond.instanceMethod ({ cls := "SinLenses$Parish", name := "allSins", desc := "()I" } : Jvm.MethodName)) ∈ gw := gwT (tb5 (List.mem_of_getElem? (i := 158) rfl)) rfl
theorem wd_1119 : (Jvm.Cond.code ({ cls := "SinLenses$Parish", name := "allSins", desc := "()I" } : Jvm.MethodName) prog_7_method_8_code (3 : Nat) (Option.some Jvm.ClassFile.FieldType.int)) ∈ gw := gwT (tb5 (List.mem_of_getElem? (i := 159) rfl)) rfl
theorem wd_1120 : (Jvm.Cond.methodLink "SinLenses$Parish" (77 : Nat) ({ cls := "SinLenses$Parish", name := "sinsOf", desc := "(I)I" } : Jvm.MethodName)) ∈ gw := gwT (tb5 (List.mem_of_getElem? (i := 160) rfl)) rfl
theorem wd_1121 : (Jvm.Cond.methodLink "SinLensesLaw" (179 : Nat) ({ cls := "SinLenses", name := "status", desc := "()I" } : Jvm.MethodName)) ∈ gw := gwT (tb5 (List.mem_of_getElem? (i := 161) rfl)) rfl
theorem wd_1122 : (Jvm.Cond.instanceMethod ({ cls := "SinLenses", name := "status", desc := "()I" } : Jvm.MethodName)) ∈ gw := gwT (tb5 (List.mem_of_getElem? (i := 162) rfl)) rfl
theorem wd_1123 : (Jvm.Cond.selects "SinLenses" ({ cls := "SinLenses", name := "status", desc := "()I" } : Jvm.MethodName) ({ cls := "SinLenses", name := "status", desc := "()I" } : Jvm.MethodName)) ∈ gw := gwT (tb5 (List.mem_of_getElem? (i := 163) rfl)) rfl
theorem wd_1124 : (Jvm.Cond.code ({ cls := "SinLenses", name := "status", desc := "()I" } : Jvm.MethodName) prog_1_method_43_code (1 : Nat) (Option.some Jvm.ClassFile.FieldType.int)) ∈ gw := gwT (tb5 (List.mem_of_getElem? (i := 164) rfl)) rfl
theorem wd_1125 : (Jvm.Cond.classLink "SinLensesLaw" (10 : Nat) "SinLensesModel") ∈ gw := gwT (tb5 (List.mem_of_getElem? (i := 165) rfl)) rfl
theorem wd_1126 : (Jvm.Cond.instantiable "SinLensesModel" (60 : Nat)) ∈ gw := gwT (tb5 (List.mem_of_getElem? (i := 166) rfl)) rfl
theorem wd_1127 : (Jvm.Cond.methodLink "SinLensesLaw" (12 : Nat) ({ cls := "SinLensesModel", name := "<init>", desc := "()V" } : Jvm.MethodName)) ∈ gw := gwT (tb5 (List.mem_of_getElem? (i := 167) rfl)) rfl
theorem wd_1128 : (Jvm.Cond.instanceMethod ({ cls := "SinLensesModel", name := "<init>", desc := "()V" } : Jvm.MethodName)) ∈ gw := gwT (tb5 (List.mem_of_getElem? (i := 168) rfl)) rfl
theorem wd_1129 : (Jvm.Cond.code ({ cls := "SinLensesModel", name := "<init>", desc := "()V" } : Jvm.MethodName) prog_13_method_1_code (4 : Nat) (Option.none : Option Jvm.ClassFile.FieldType)) ∈ gw := gwT (tb5 (List.mem_of_getElem? (i := 169) rfl)) rfl
theorem wd_1130 : (Jvm.Cond.methodLink "SinLensesModel" (1 : Nat) ({ cls := "java/lang/Object", name := "<init>", desc := "()V" } : Jvm.MethodName)) ∈ gw := gwT (tb5 (List.mem_of_getElem? (i := 170) rfl)) rfl
theorem wd_1131 : (Jvm.Cond.constantLong "SinLensesModel" (60 : Nat) (542723566 : Int64)) ∈ gw := gwT (tb5 (List.mem_of_getElem? (i := 171) rfl)) rfl
theorem wd_1132 : (Jvm.Cond.constantLong "SinLensesModel" (62 : Nat) (370116 : Int64)) ∈ gw := gwT (tb5 (List.mem_of_getElem? (i := 172) rfl)) rfl
theorem wd_1133 : (Jvm.Cond.constantLong "SinLensesModel" (64 : Nat) (19758 : Int64)) ∈ gw := gwT (tb5 (List.mem_of_getElem? (i := 173) rfl)) rfl
theorem wd_1134 : (Jvm.Cond.constantLong "SinLensesModel" (66 : Nat) (632275 : Int64)) ∈ gw := gwT (tb5 (List.mem_of_getElem? (i := 174) rfl)) rfl
theorem wd_1135 : (Jvm.Cond.constantLong "SinLensesModel" (68 : Nat) (20225300 : Int64)) ∈ gw := gwT (tb5 (List.mem_of_getElem? (i := 175) rfl)) rfl
theorem wd_1136 : (Jvm.Cond.constantLong "SinLensesModel" (70 : Nat) (12596 : Int64)) ∈ gw := gwT (tb5 (List.mem_of_getElem? (i := 176) rfl)) rfl
theorem wd_1137 : (Jvm.Cond.constantLong "SinLensesModel" (72 : Nat) (6605428 : Int64)) ∈ gw := gwT (tb5 (List.mem_of_getElem? (i := 177) rfl)) rfl
theorem wd_1138 : (Jvm.Cond.constantLong "SinLensesModel" (74 : Nat) (4153 : Int64)) ∈ gw := gwT (tb5 (List.mem_of_getElem? (i := 178) rfl)) rfl
theorem wd_1139 : (Jvm.Cond.constantLong "SinLensesModel" (76 : Nat) (441828 : Int64)) ∈ gw := gwT (tb5 (List.mem_of_getElem? (i := 179) rfl)) rfl
theorem wd_1140 : (Jvm.Cond.constantLong "SinLensesModel" (82 : Nat) (146885 : Int64)) ∈ gw := gwT (tb5 (List.mem_of_getElem? (i := 180) rfl)) rfl
theorem wd_1141 : (Jvm.Cond.constantLong "SinLensesModel" (84 : Nat) (404362868 : Int64)) ∈ gw := gwT (tb5 (List.mem_of_getElem? (i := 181) rfl)) rfl
theorem wd_1142 : (Jvm.Cond.constantLong "SinLensesModel" (86 : Nat) (20026821 : Int64)) ∈ gw := gwT (tb5 (List.mem_of_getElem? (i := 182) rfl)) rfl
theorem wd_1143 : (Jvm.Cond.constantLong "SinLensesModel" (88 : Nat) (146611 : Int64)) ∈ gw := gwT (tb5 (List.mem_of_getElem? (i := 183) rfl)) rfl
theorem wd_1144 : (Jvm.Cond.constantLong "SinLensesModel" (93 : Nat) (254064787 : Int64)) ∈ gw := gwT (tb5 (List.mem_of_getElem? (i := 184) rfl)) rfl
theorem wd_1145 : (Jvm.Cond.constantLong "SinLensesModel" (95 : Nat) (7945971 : Int64)) ∈ gw := gwT (tb5 (List.mem_of_getElem? (i := 185) rfl)) rfl
theorem wd_1146 : (Jvm.Cond.constantLong "SinLensesModel" (97 : Nat) (67155 : Int64)) ∈ gw := gwT (tb5 (List.mem_of_getElem? (i := 186) rfl)) rfl
theorem wd_1147 : (Jvm.Cond.constantLong "SinLensesModel" (138 : Nat) (646192 : Int64)) ∈ gw := gwT (tb5 (List.mem_of_getElem? (i := 187) rfl)) rfl
theorem wd_1148 : (Jvm.Cond.constantLong "SinLensesModel" (140 : Nat) (7939524 : Int64)) ∈ gw := gwT (tb5 (List.mem_of_getElem? (i := 188) rfl)) rfl
theorem wd_1149 : (Jvm.Cond.constantLong "SinLensesModel" (142 : Nat) (3554952 : Int64)) ∈ gw := gwT (tb5 (List.mem_of_getElem? (i := 189) rfl)) rfl
theorem wd_1150 : (Jvm.Cond.constantLong "SinLensesModel" (144 : Nat) (525939 : Int64)) ∈ gw := gwT (tb5 (List.mem_of_getElem? (i := 190) rfl)) rfl
theorem wd_1151 : (Jvm.Cond.methodLink "SinLensesModel" (161 : Nat) ({ cls := "SinLensesModel", name := "is", desc := "(II)Z" } : Jvm.MethodName)) ∈ gw := gwT (tb5 (List.mem_of_getElem? (i := 191) rfl)) rfl
theorem wd_1152 : (Jvm.Cond.static ({ cls := "SinLensesModel", name := "is", desc := "(II)Z" } : Jvm.MethodName)) ∈ gw := gwT (tb5 (List.mem_of_getElem? (i := 192) rfl)) rfl
theorem wd_1153 : (Jvm.Cond.code ({ cls := "SinLensesModel", name := "is", desc := "(II)Z" } : Jvm.MethodName) prog_13_method_4_code (2 : Nat) (Option.some Jvm.ClassFile.FieldType.boolean)) ∈ gw := gwT (tb5 (List.mem_of_getElem? (i := 193) rfl)) rfl
theorem wd_1154 : (Jvm.Cond.fieldLink "SinLensesModel" (165 : Nat) "SinLensesModel" "thrown" "I") ∈ gw := gwT (tb5 (List.mem_of_getElem? (i := 194) rfl)) rfl
theorem wd_1155 : (Jvm.Cond.fieldLink "SinLensesModel" (168 : Nat) "SinLensesModel" "status" "I") ∈ gw := gwT (tb5 (List.mem_of_getElem? (i := 195) rfl)) rfl
theorem wd_1156 : (Jvm.Cond.fieldLink "SinLensesModel" (7 : Nat) "SinLensesModel" "refusals" "[I") ∈ gw := gwT (tb5 (List.mem_of_getElem? (i := 196) rfl)) rfl
theorem wd_1157 : (Jvm.Cond.fieldLink "SinLensesModel" (13 : Nat) "SinLensesModel" "made" "[I") ∈ gw := gwT (tb5 (List.mem_of_getElem? (i := 197) rfl)) rfl
theorem wd_1158 : (Jvm.Cond.fieldLink "SinLensesModel" (16 : Nat) "SinLensesModel" "row" "[I") ∈ gw := gwT (tb5 (List.mem_of_getElem? (i := 198) rfl)) rfl
theorem wd_1159 : (Jvm.Cond.fieldLink "SinLensesModel" (19 : Nat) "SinLensesModel" "images" "[I") ∈ gw := gwT (tb5 (List.mem_of_getElem? (i := 199) rfl)) rfl
theorem wd_1160 : (Jvm.Cond.fieldLink "SinLensesModel" (22 : Nat) "SinLensesModel" "isKept" "[Z") ∈ gw := gwT (tb5 (List.mem_of_getElem? (i := 200) rfl)) rfl
theorem wd_1161 : (Jvm.Cond.fieldLink "SinLensesModel" (26 : Nat) "SinLensesModel" "undos" "[I") ∈ gw := gwT (tb5 (List.mem_of_getElem? (i := 201) rfl)) rfl
theorem wd_1162 : (Jvm.Cond.fieldLink "SinLensesModel" (29 : Nat) "SinLensesModel" "sorts" "[I") ∈ gw := gwT (tb5 (List.mem_of_getElem? (i := 202) rfl)) rfl
theorem wd_1163 : (Jvm.Cond.fieldLink "SinLensesModel" (171 : Nat) "SinLensesModel" "nUndo" "I") ∈ gw := gwT (tb5 (List.mem_of_getElem? (i := 203) rfl)) rfl
theorem wd_1164 : (Jvm.Cond.fieldLink "SinLensesModel" (32 : Nat) "SinLensesModel" "undosBefore" "[I") ∈ gw := gwT (tb5 (List.mem_of_getElem? (i := 204) rfl)) rfl
theorem wd_1165 : (Jvm.Cond.fieldLink "SinLensesModel" (35 : Nat) "SinLensesModel" "sortsBefore" "[I") ∈ gw := gwT (tb5 (List.mem_of_getElem? (i := 205) rfl)) rfl
theorem wd_1166 : (Jvm.Cond.fieldLink "SinLensesModel" (262 : Nat) "SinLensesModel" "smears" "I") ∈ gw := gwT (tb5 (List.mem_of_getElem? (i := 206) rfl)) rfl
theorem wd_1167 : (Jvm.Cond.fieldLink "SinLensesModel" (38 : Nat) "SinLensesModel" "tape" "[I") ∈ gw := gwT (tb5 (List.mem_of_getElem? (i := 207) rfl)) rfl
theorem wd_1168 : (Jvm.Cond.fieldLink "SinLensesModel" (259 : Nat) "SinLensesModel" "taped" "I") ∈ gw := gwT (tb5 (List.mem_of_getElem? (i := 208) rfl)) rfl
theorem wd_1169 : (Jvm.Cond.fieldLink "SinLensesModel" (278 : Nat) "SinLensesModel" "from" "I") ∈ gw := gwT (tb5 (List.mem_of_getElem? (i := 209) rfl)) rfl
theorem wd_1170 : (Jvm.Cond.fieldLink "SinLensesModel" (268 : Nat) "SinLensesModel" "to" "I") ∈ gw := gwT (tb5 (List.mem_of_getElem? (i := 210) rfl)) rfl
theorem wd_1171 : (Jvm.Cond.fieldLink "SinLensesModel" (291 : Nat) "SinLensesModel" "sort" "I") ∈ gw := gwT (tb5 (List.mem_of_getElem? (i := 211) rfl)) rfl
theorem wd_1172 : (Jvm.Cond.fieldLink "SinLensesModel" (281 : Nat) "SinLensesModel" "worth" "J") ∈ gw := gwT (tb5 (List.mem_of_getElem? (i := 212) rfl)) rfl
theorem wd_1173 : (Jvm.Cond.fieldLink "SinLensesModel" (41 : Nat) "SinLensesModel" "fault" "I") ∈ gw := gwT (tb5 (List.mem_of_getElem? (i := 213) rfl)) rfl
theorem wd_1174 : (Jvm.Cond.fieldLink "SinLensesModel" (271 : Nat) "SinLensesModel" "bad" "Z") ∈ gw := gwT (tb5 (List.mem_of_getElem? (i := 214) rfl)) rfl
theorem wd_1175 : (Jvm.Cond.fieldLink "SinLensesModel" (347 : Nat) "SinLensesModel" "ordered" "Z") ∈ gw := gwT (tb5 (List.mem_of_getElem? (i := 215) rfl)) rfl
theorem wd_1176 : (Jvm.Cond.fieldLink "SinLensesModel" (399 : Nat) "SinLensesModel" "nClauses" "I") ∈ gw := gwT (tb5 (List.mem_of_getElem? (i := 216) rfl)) rfl
theorem wd_1177 : (Jvm.Cond.fieldLink "SinLensesModel" (45 : Nat) "SinLensesModel" "nClause" "[I") ∈ gw := gwT (tb5 (List.mem_of_getElem? (i := 217) rfl)) rfl
theorem wd_1178 : (Jvm.Cond.fieldLink "SinLensesModel" (308 : Nat) "SinLensesModel" "nCode" "I") ∈ gw := gwT (tb5 (List.mem_of_getElem? (i := 218) rfl)) rfl
theorem wd_1179 : (Jvm.Cond.fieldLink "SinLensesModel" (48 : Nat) "SinLensesModel" "nOp" "[I") ∈ gw := gwT (tb5 (List.mem_of_getElem? (i := 219) rfl)) rfl
theorem wd_1180 : (Jvm.Cond.fieldLink "SinLensesModel" (51 : Nat) "SinLensesModel" "nArg" "[I") ∈ gw := gwT (tb5 (List.mem_of_getElem? (i := 220) rfl)) rfl
theorem wd_1181 : (Jvm.Cond.fieldLink "SinLensesModel" (338 : Nat) "SinLensesModel" "nLeaves" "I") ∈ gw := gwT (tb5 (List.mem_of_getElem? (i := 221) rfl)) rfl
theorem wd_1182 : (Jvm.Cond.fieldLink "SinLensesModel" (54 : Nat) "SinLensesModel" "pile" "[I") ∈ gw := gwT (tb5 (List.mem_of_getElem? (i := 222) rfl)) rfl
theorem wd_1183 : (Jvm.Cond.fieldLink "SinLensesModel" (57 : Nat) "SinLensesModel" "pileAt" "[I") ∈ gw := gwT (tb5 (List.mem_of_getElem? (i := 223) rfl)) rfl
theorem wd_1184 : (Jvm.Cond.fieldLink "SinLensesModel" (311 : Nat) "SinLensesModel" "piled" "I") ∈ gw := gwT (tb5 (List.mem_of_getElem? (i := 224) rfl)) rfl
theorem wd_1185 : (Jvm.Cond.fieldLink "SinLensesModel" (332 : Nat) "SinLensesModel" "opened" "I") ∈ gw := gwT (tb5 (List.mem_of_getElem? (i := 225) rfl)) rfl
theorem wd_1186 : (Jvm.Cond.fieldLink "SinLensesModel" (78 : Nat) "SinLensesModel" "words" "[J") ∈ gw := gwT (tb5 (List.mem_of_getElem? (i := 226) rfl)) rfl
theorem wd_1187 : (Jvm.Cond.fieldLink "SinLensesModel" (90 : Nat) "SinLensesModel" "orderWords" "[J") ∈ gw := gwT (tb5 (List.mem_of_getElem? (i := 227) rfl)) rfl
theorem wd_1188 : (Jvm.Cond.fieldLink "SinLensesModel" (99 : Nat) "SinLensesModel" "heads" "[J") ∈ gw := gwT (tb5 (List.mem_of_getElem? (i := 228) rfl)) rfl
theorem wd_1189 : (Jvm.Cond.fieldLink "SinLensesModel" (422 : Nat) "SinLensesModel" "law" "I") ∈ gw := gwT (tb5 (List.mem_of_getElem? (i := 229) rfl)) rfl
theorem wd_1190 : (Jvm.Cond.fieldLink "SinLensesModel" (102 : Nat) "SinLensesModel" "set" "[J") ∈ gw := gwT (tb5 (List.mem_of_getElem? (i := 230) rfl)) rfl
theorem wd_1191 : (Jvm.Cond.fieldLink "SinLensesModel" (105 : Nat) "SinLensesModel" "now" "[J") ∈ gw := gwT (tb5 (List.mem_of_getElem? (i := 231) rfl)) rfl
theorem wd_1192 : (Jvm.Cond.fieldLink "SinLensesModel" (108 : Nat) "SinLensesModel" "doesNow" "[I") ∈ gw := gwT (tb5 (List.mem_of_getElem? (i := 232) rfl)) rfl
theorem wd_1193 : (Jvm.Cond.fieldLink "SinLensesModel" (111 : Nat) "SinLensesModel" "rest" "[J") ∈ gw := gwT (tb5 (List.mem_of_getElem? (i := 233) rfl)) rfl
theorem wd_1194 : (Jvm.Cond.fieldLink "SinLensesModel" (419 : Nat) "SinLensesModel" "broken" "Z") ∈ gw := gwT (tb5 (List.mem_of_getElem? (i := 234) rfl)) rfl
theorem wd_1195 : (Jvm.Cond.fieldLink "SinLensesModel" (436 : Nat) "SinLensesModel" "value" "J") ∈ gw := gwT (tb5 (List.mem_of_getElem? (i := 235) rfl)) rfl
theorem wd_1196 : (Jvm.Cond.fieldLink "SinLensesModel" (442 : Nat) "SinLensesModel" "sum" "J") ∈ gw := gwT (tb5 (List.mem_of_getElem? (i := 236) rfl)) rfl
theorem wd_1197 : (Jvm.Cond.fieldLink "SinLensesModel" (114 : Nat) "SinLensesModel" "groundTo" "[I") ∈ gw := gwT (tb5 (List.mem_of_getElem? (i := 237) rfl)) rfl
theorem wd_1198 : (Jvm.Cond.fieldLink "SinLensesModel" (117 : Nat) "SinLensesModel" "grows" "[I") ∈ gw := gwT (tb5 (List.mem_of_getElem? (i := 238) rfl)) rfl
theorem wd_1199 : (Jvm.Cond.fieldLink "SinLensesModel" (120 : Nat) "SinLensesModel" "left" "[I") ∈ gw := gwT (tb5 (List.mem_of_getElem? (i := 239) rfl)) rfl
theorem wd_1200 : (Jvm.Cond.fieldLink "SinLensesModel" (123 : Nat) "SinLensesModel" "alikes" "[I") ∈ gw := gwT (tb6 (List.mem_of_getElem? (i := 0) rfl)) rfl
theorem wd_1201 : (Jvm.Cond.fieldLink "SinLensesModel" (126 : Nat) "SinLensesModel" "willDo" "[Z") ∈ gw := gwT (tb6 (List.mem_of_getElem? (i := 1) rfl)) rfl
theorem wd_1202 : (Jvm.Cond.fieldLink "SinLensesModel" (129 : Nat) "SinLensesModel" "tried" "[I") ∈ gw := gwT (tb6 (List.mem_of_getElem? (i := 2) rfl)) rfl
theorem wd_1203 : (Jvm.Cond.fieldLink "SinLensesModel" (132 : Nat) "SinLensesModel" "bestRow" "[I") ∈ gw := gwT (tb6 (List.mem_of_getElem? (i := 3) rfl)) rfl
theorem wd_1204 : (Jvm.Cond.fieldLink "SinLensesModel" (135 : Nat) "SinLensesModel" "parts" "[J") ∈ gw := gwT (tb6 (List.mem_of_getElem? (i := 4) rfl)) rfl
theorem wd_1205 : (Jvm.Cond.fieldLink "SinLensesModel" (146 : Nat) "SinLensesModel" "acts" "[J") ∈ gw := gwT (tb6 (List.mem_of_getElem? (i := 5) rfl)) rfl
theorem wd_1206 : (Jvm.Cond.fieldLink "SinLensesModel" (149 : Nat) "SinLensesModel" "nOrder" "[I") ∈ gw := gwT (tb6 (List.mem_of_getElem? (i := 6) rfl)) rfl
theorem wd_1207 : (Jvm.Cond.fieldLink "SinLensesModel" (538 : Nat) "SinLensesModel" "done" "I") ∈ gw := gwT (tb6 (List.mem_of_getElem? (i := 7) rfl)) rfl
theorem wd_1208 : (Jvm.Cond.fieldLink "SinLensesModel" (541 : Nat) "SinLensesModel" "latest" "I") ∈ gw := gwT (tb6 (List.mem_of_getElem? (i := 8) rfl)) rfl
theorem wd_1209 : (Jvm.Cond.fieldLink "SinLensesModel" (152 : Nat) "SinLensesModel" "stopped" "I") ∈ gw := gwT (tb6 (List.mem_of_getElem? (i := 9) rfl)) rfl
theorem wd_1210 : (Jvm.Cond.fieldLink "SinLensesModel" (535 : Nat) "SinLensesModel" "off" "Z") ∈ gw := gwT (tb6 (List.mem_of_getElem? (i := 10) rfl)) rfl
theorem wd_1211 : (Jvm.Cond.fieldLink "SinLensesModel" (559 : Nat) "SinLensesModel" "state" "J") ∈ gw := gwT (tb6 (List.mem_of_getElem? (i := 11) rfl)) rfl
theorem wd_1212 : (Jvm.Cond.fieldLink "SinLensesModel" (155 : Nat) "SinLensesModel" "drawn" "[I") ∈ gw := gwT (tb6 (List.mem_of_getElem? (i := 12) rfl)) rfl
theorem wd_1213 : (Jvm.Cond.fieldLink "SinLensesModel" (158 : Nat) "SinLensesModel" "drawnPeople" "I") ∈ gw := gwT (tb6 (List.mem_of_getElem? (i := 13) rfl)) rfl
theorem wd_1214 : (Jvm.Cond.lays "SinLensesModel" "SinLensesModel" "thrown" "I") ∈ gw := gwT (tb6 (List.mem_of_getElem? (i := 14) rfl)) rfl
theorem wd_1216 : (Jvm.Cond.lays "SinLensesModel" "SinLensesModel" "status" "I") ∈ gw := gwT (tb6 (List.mem_of_getElem? (i := 16) rfl)) rfl
theorem wd_1218 : (Jvm.Cond.laysFinal "SinLensesModel" "SinLensesModel" "refusals" "[I") ∈ gw := gwT (tb6 (List.mem_of_getElem? (i := 18) rfl)) rfl
theorem wd_1220 : (Jvm.Cond.laysFinal "SinLensesModel" "SinLensesModel" "made" "[I") ∈ gw := gwT (tb6 (List.mem_of_getElem? (i := 20) rfl)) rfl
theorem wd_1222 : (Jvm.Cond.laysFinal "SinLensesModel" "SinLensesModel" "row" "[I") ∈ gw := gwT (tb6 (List.mem_of_getElem? (i := 22) rfl)) rfl
theorem wd_1224 : (Jvm.Cond.laysFinal "SinLensesModel" "SinLensesModel" "images" "[I") ∈ gw := gwT (tb6 (List.mem_of_getElem? (i := 24) rfl)) rfl
theorem wd_1226 : (Jvm.Cond.laysFinal "SinLensesModel" "SinLensesModel" "isKept" "[Z") ∈ gw := gwT (tb6 (List.mem_of_getElem? (i := 26) rfl)) rfl
theorem wd_1228 : (Jvm.Cond.laysFinal "SinLensesModel" "SinLensesModel" "undos" "[I") ∈ gw := gwT (tb6 (List.mem_of_getElem? (i := 28) rfl)) rfl
theorem wd_1230 : (Jvm.Cond.laysFinal "SinLensesModel" "SinLensesModel" "sorts" "[I") ∈ gw := gwT (tb6 (List.mem_of_getElem? (i := 30) rfl)) rfl
theorem wd_1232 : (Jvm.Cond.lays "SinLensesModel" "SinLensesModel" "nUndo" "I") ∈ gw := gwT (tb6 (List.mem_of_getElem? (i := 32) rfl)) rfl
theorem wd_1234 : (Jvm.Cond.laysFinal "SinLensesModel" "SinLensesModel" "undosBefore" "[I") ∈ gw := gwT (tb6 (List.mem_of_getElem? (i := 34) rfl)) rfl
theorem wd_1236 : (Jvm.Cond.laysFinal "SinLensesModel" "SinLensesModel" "sortsBefore" "[I") ∈ gw := gwT (tb6 (List.mem_of_getElem? (i := 36) rfl)) rfl
theorem wd_1238 : (Jvm.Cond.lays "SinLensesModel" "SinLensesModel" "smears" "I") ∈ gw := gwT (tb6 (List.mem_of_getElem? (i := 38) rfl)) rfl
theorem wd_1240 : (Jvm.Cond.laysFinal "SinLensesModel" "SinLensesModel" "tape" "[I") ∈ gw := gwT (tb6 (List.mem_of_getElem? (i := 40) rfl)) rfl
theorem wd_1242 : (Jvm.Cond.lays "SinLensesModel" "SinLensesModel" "taped" "I") ∈ gw := gwT (tb6 (List.mem_of_getElem? (i := 42) rfl)) rfl
theorem wd_1244 : (Jvm.Cond.lays "SinLensesModel" "SinLensesModel" "from" "I") ∈ gw := gwT (tb6 (List.mem_of_getElem? (i := 44) rfl)) rfl
theorem wd_1246 : (Jvm.Cond.lays "SinLensesModel" "SinLensesModel" "to" "I") ∈ gw := gwT (tb6 (List.mem_of_getElem? (i := 46) rfl)) rfl
theorem wd_1248 : (Jvm.Cond.lays "SinLensesModel" "SinLensesModel" "sort" "I") ∈ gw := gwT (tb6 (List.mem_of_getElem? (i := 48) rfl)) rfl
theorem wd_1250 : (Jvm.Cond.lays "SinLensesModel" "SinLensesModel" "worth" "J") ∈ gw := gwT (tb6 (List.mem_of_getElem? (i := 50) rfl)) rfl
theorem wd_1252 : (Jvm.Cond.lays "SinLensesModel" "SinLensesModel" "fault" "I") ∈ gw := gwT (tb6 (List.mem_of_getElem? (i := 52) rfl)) rfl
theorem wd_1254 : (Jvm.Cond.lays "SinLensesModel" "SinLensesModel" "bad" "Z") ∈ gw := gwT (tb6 (List.mem_of_getElem? (i := 54) rfl)) rfl
theorem wd_1256 : (Jvm.Cond.lays "SinLensesModel" "SinLensesModel" "ordered" "Z") ∈ gw := gwT (tb6 (List.mem_of_getElem? (i := 56) rfl)) rfl
theorem wd_1258 : (Jvm.Cond.lays "SinLensesModel" "SinLensesModel" "nClauses" "I") ∈ gw := gwT (tb6 (List.mem_of_getElem? (i := 58) rfl)) rfl
theorem wd_1260 : (Jvm.Cond.laysFinal "SinLensesModel" "SinLensesModel" "nClause" "[I") ∈ gw := gwT (tb6 (List.mem_of_getElem? (i := 60) rfl)) rfl
theorem wd_1262 : (Jvm.Cond.lays "SinLensesModel" "SinLensesModel" "nCode" "I") ∈ gw := gwT (tb6 (List.mem_of_getElem? (i := 62) rfl)) rfl
theorem wd_1264 : (Jvm.Cond.laysFinal "SinLensesModel" "SinLensesModel" "nOp" "[I") ∈ gw := gwT (tb6 (List.mem_of_getElem? (i := 64) rfl)) rfl
theorem wd_1266 : (Jvm.Cond.laysFinal "SinLensesModel" "SinLensesModel" "nArg" "[I") ∈ gw := gwT (tb6 (List.mem_of_getElem? (i := 66) rfl)) rfl
theorem wd_1268 : (Jvm.Cond.lays "SinLensesModel" "SinLensesModel" "nLeaves" "I") ∈ gw := gwT (tb6 (List.mem_of_getElem? (i := 68) rfl)) rfl
theorem wd_1270 : (Jvm.Cond.laysFinal "SinLensesModel" "SinLensesModel" "pile" "[I") ∈ gw := gwT (tb6 (List.mem_of_getElem? (i := 70) rfl)) rfl
theorem wd_1272 : (Jvm.Cond.laysFinal "SinLensesModel" "SinLensesModel" "pileAt" "[I") ∈ gw := gwT (tb6 (List.mem_of_getElem? (i := 72) rfl)) rfl
theorem wd_1274 : (Jvm.Cond.lays "SinLensesModel" "SinLensesModel" "piled" "I") ∈ gw := gwT (tb6 (List.mem_of_getElem? (i := 74) rfl)) rfl
theorem wd_1276 : (Jvm.Cond.lays "SinLensesModel" "SinLensesModel" "opened" "I") ∈ gw := gwT (tb6 (List.mem_of_getElem? (i := 76) rfl)) rfl
theorem wd_1278 : (Jvm.Cond.laysFinal "SinLensesModel" "SinLensesModel" "words" "[J") ∈ gw := gwT (tb6 (List.mem_of_getElem? (i := 78) rfl)) rfl
theorem wd_1280 : (Jvm.Cond.laysFinal "SinLensesModel" "SinLensesModel" "orderWords" "[J") ∈ gw := gwT (tb6 (List.mem_of_getElem? (i := 80) rfl)) rfl
theorem wd_1282 : (Jvm.Cond.laysFinal "SinLensesModel" "SinLensesModel" "heads" "[J") ∈ gw := gwT (tb6 (List.mem_of_getElem? (i := 82) rfl)) rfl
theorem wd_1284 : (Jvm.Cond.lays "SinLensesModel" "SinLensesModel" "law" "I") ∈ gw := gwT (tb6 (List.mem_of_getElem? (i := 84) rfl)) rfl
theorem wd_1286 : (Jvm.Cond.laysFinal "SinLensesModel" "SinLensesModel" "set" "[J") ∈ gw := gwT (tb6 (List.mem_of_getElem? (i := 86) rfl)) rfl
theorem wd_1288 : (Jvm.Cond.laysFinal "SinLensesModel" "SinLensesModel" "now" "[J") ∈ gw := gwT (tb6 (List.mem_of_getElem? (i := 88) rfl)) rfl
theorem wd_1290 : (Jvm.Cond.laysFinal "SinLensesModel" "SinLensesModel" "doesNow" "[I") ∈ gw := gwT (tb6 (List.mem_of_getElem? (i := 90) rfl)) rfl
theorem wd_1292 : (Jvm.Cond.laysFinal "SinLensesModel" "SinLensesModel" "rest" "[J") ∈ gw := gwT (tb6 (List.mem_of_getElem? (i := 92) rfl)) rfl
theorem wd_1294 : (Jvm.Cond.lays "SinLensesModel" "SinLensesModel" "broken" "Z") ∈ gw := gwT (tb6 (List.mem_of_getElem? (i := 94) rfl)) rfl
theorem wd_1296 : (Jvm.Cond.lays "SinLensesModel" "SinLensesModel" "value" "J") ∈ gw := gwT (tb6 (List.mem_of_getElem? (i := 96) rfl)) rfl
theorem wd_1298 : (Jvm.Cond.lays "SinLensesModel" "SinLensesModel" "sum" "J") ∈ gw := gwT (tb6 (List.mem_of_getElem? (i := 98) rfl)) rfl
theorem wd_1300 : (Jvm.Cond.laysFinal "SinLensesModel" "SinLensesModel" "groundTo" "[I") ∈ gw := gwT (tb6 (List.mem_of_getElem? (i := 100) rfl)) rfl
theorem wd_1302 : (Jvm.Cond.laysFinal "SinLensesModel" "SinLensesModel" "grows" "[I") ∈ gw := gwT (tb6 (List.mem_of_getElem? (i := 102) rfl)) rfl
theorem wd_1304 : (Jvm.Cond.laysFinal "SinLensesModel" "SinLensesModel" "left" "[I") ∈ gw := gwT (tb6 (List.mem_of_getElem? (i := 104) rfl)) rfl
theorem wd_1306 : (Jvm.Cond.laysFinal "SinLensesModel" "SinLensesModel" "alikes" "[I") ∈ gw := gwT (tb6 (List.mem_of_getElem? (i := 106) rfl)) rfl
theorem wd_1308 : (Jvm.Cond.laysFinal "SinLensesModel" "SinLensesModel" "willDo" "[Z") ∈ gw := gwT (tb6 (List.mem_of_getElem? (i := 108) rfl)) rfl
theorem wd_1310 : (Jvm.Cond.laysFinal "SinLensesModel" "SinLensesModel" "tried" "[I") ∈ gw := gwT (tb6 (List.mem_of_getElem? (i := 110) rfl)) rfl
theorem wd_1312 : (Jvm.Cond.laysFinal "SinLensesModel" "SinLensesModel" "bestRow" "[I") ∈ gw := gwT (tb6 (List.mem_of_getElem? (i := 112) rfl)) rfl
theorem wd_1314 : (Jvm.Cond.laysFinal "SinLensesModel" "SinLensesModel" "parts" "[J") ∈ gw := gwT (tb6 (List.mem_of_getElem? (i := 114) rfl)) rfl
theorem wd_1316 : (Jvm.Cond.laysFinal "SinLensesModel" "SinLensesModel" "acts" "[J") ∈ gw := gwT (tb6 (List.mem_of_getElem? (i := 116) rfl)) rfl
theorem wd_1318 : (Jvm.Cond.laysFinal "SinLensesModel" "SinLensesModel" "nOrder" "[I") ∈ gw := gwT (tb6 (List.mem_of_getElem? (i := 118) rfl)) rfl
theorem wd_1320 : (Jvm.Cond.lays "SinLensesModel" "SinLensesModel" "done" "I") ∈ gw := gwT (tb6 (List.mem_of_getElem? (i := 120) rfl)) rfl
theorem wd_1322 : (Jvm.Cond.lays "SinLensesModel" "SinLensesModel" "latest" "I") ∈ gw := gwT (tb6 (List.mem_of_getElem? (i := 122) rfl)) rfl
theorem wd_1324 : (Jvm.Cond.lays "SinLensesModel" "SinLensesModel" "stopped" "I") ∈ gw := gwT (tb6 (List.mem_of_getElem? (i := 124) rfl)) rfl
theorem wd_1326 : (Jvm.Cond.lays "SinLensesModel" "SinLensesModel" "off" "Z") ∈ gw := gwT (tb6 (List.mem_of_getElem? (i := 126) rfl)) rfl
theorem wd_1328 : (Jvm.Cond.lays "SinLensesModel" "SinLensesModel" "state" "J") ∈ gw := gwT (tb6 (List.mem_of_getElem? (i := 128) rfl)) rfl
theorem wd_1330 : (Jvm.Cond.laysFinal "SinLensesModel" "SinLensesModel" "drawn" "[I") ∈ gw := gwT (tb6 (List.mem_of_getElem? (i := 130) rfl)) rfl
theorem wd_1332 : (Jvm.Cond.lays "SinLensesModel" "SinLensesModel" "drawnPeople" "I") ∈ gw := gwT (tb6 (List.mem_of_getElem? (i := 132) rfl)) rfl
theorem wd_1335 : (Jvm.Cond.arrayClass Jvm.ClassFile.FieldType.boolean) ∈ gw := gwT (tb6 (List.mem_of_getElem? (i := 135) rfl)) rfl
theorem wd_1336 : (Jvm.Cond.methodLink "SinLensesLaw" (105 : Nat) ({ cls := "SinLensesModel", name := "undo", desc := "()I" } : Jvm.MethodName)) ∈ gw := gwT (tb6 (List.mem_of_getElem? (i := 136) rfl)) rfl
theorem wd_1337 : (Jvm.Cond.instanceMethod ({ cls := "SinLensesModel", name := "undo", desc := "()I" } : Jvm.MethodName)) ∈ gw := gwT (tb6 (List.mem_of_getElem? (i := 137) rfl)) rfl
theorem wd_1338 : (Jvm.Cond.selects "SinLensesModel" ({ cls := "SinLensesModel", name := "undo", desc := "()I" } : Jvm.MethodName) ({ cls := "SinLensesModel", name := "undo", desc := "()I" } : Jvm.MethodName)) ∈ gw := gwT (tb6 (List.mem_of_getElem? (i := 138) rfl)) rfl
theorem wd_1339 : (Jvm.Cond.code ({ cls := "SinLensesModel", name := "undo", desc := "()I" } : Jvm.MethodName) prog_13_method_12_code (1 : Nat) (Option.some Jvm.ClassFile.FieldType.int)) ∈ gw := gwT (tb6 (List.mem_of_getElem? (i := 139) rfl)) rfl
theorem wd_1340 : (Jvm.Cond.methodLink "SinLensesModel" (174 : Nat) ({ cls := "SinLensesModel", name := "tell", desc := "(I)I" } : Jvm.MethodName)) ∈ gw := gwT (tb6 (List.mem_of_getElem? (i := 140) rfl)) rfl
theorem wd_1342 : (Jvm.Cond.instanceMethod ({ cls := "SinLensesModel", name := "tell", desc := "(I)I" } : Jvm.MethodName)) ∈ gw := gwT (tb6 (List.mem_of_getElem? (i := 142) rfl)) rfl
theorem wd_1343 : (Jvm.Cond.code ({ cls := "SinLensesModel", name := "tell", desc := "(I)I" } : Jvm.MethodName) prog_13_method_6_code (2 : Nat) (Option.some Jvm.ClassFile.FieldType.int)) ∈ gw := gwT (tb6 (List.mem_of_getElem? (i := 143) rfl)) rfl
theorem wd_1344 : (Jvm.Cond.methodLink "SinLensesModel" (182 : Nat) ({ cls := "SinLensesModel", name := "putBack", desc := "(I)V" } : Jvm.MethodName)) ∈ gw := gwT (tb6 (List.mem_of_getElem? (i := 144) rfl)) rfl
theorem wd_1346 : (Jvm.Cond.instanceMethod ({ cls := "SinLensesModel", name := "putBack", desc := "(I)V" } : Jvm.MethodName)) ∈ gw := gwT (tb6 (List.mem_of_getElem? (i := 146) rfl)) rfl
theorem wd_1347 : (Jvm.Cond.code ({ cls := "SinLensesModel", name := "putBack", desc := "(I)V" } : Jvm.MethodName) prog_13_method_10_code (3 : Nat) (Option.none : Option Jvm.ClassFile.FieldType)) ∈ gw := gwT (tb6 (List.mem_of_getElem? (i := 147) rfl)) rfl
theorem wd_1348 : (Jvm.Cond.methodLink "SinLensesLaw" (170 : Nat) ({ cls := "SinLensesModel", name := "image", desc := "(I)I" } : Jvm.MethodName)) ∈ gw := gwT (tb6 (List.mem_of_getElem? (i := 148) rfl)) rfl
theorem wd_1349 : (Jvm.Cond.instanceMethod ({ cls := "SinLensesModel", name := "image", desc := "(I)I" } : Jvm.MethodName)) ∈ gw := gwT (tb6 (List.mem_of_getElem? (i := 149) rfl)) rfl
theorem wd_1350 : (Jvm.Cond.selects "SinLensesModel" ({ cls := "SinLensesModel", name := "image", desc := "(I)I" } : Jvm.MethodName) ({ cls := "SinLensesModel", name := "image", desc := "(I)I" } : Jvm.MethodName)) ∈ gw := gwT (tb6 (List.mem_of_getElem? (i := 150) rfl)) rfl
theorem wd_1351 : (Jvm.Cond.code ({ cls := "SinLensesModel", name := "image", desc := "(I)I" } : Jvm.MethodName) prog_13_method_13_code (3 : Nat) (Option.some Jvm.ClassFile.FieldType.int)) ∈ gw := gwT (tb6 (List.mem_of_getElem? (i := 151) rfl)) rfl
theorem wd_1352 : (Jvm.Cond.methodLink "SinLensesModel" (185 : Nat) ({ cls := "SinLensesModel", name := "in", desc := "(JJJ)Z" } : Jvm.MethodName)) ∈ gw := gwT (tb6 (List.mem_of_getElem? (i := 152) rfl)) rfl
theorem wd_1353 : (Jvm.Cond.static ({ cls := "SinLensesModel", name := "in", desc := "(JJJ)Z" } : Jvm.MethodName)) ∈ gw := gwT (tb6 (List.mem_of_getElem? (i := 153) rfl)) rfl
theorem wd_1354 : (Jvm.Cond.code ({ cls := "SinLensesModel", name := "in", desc := "(JJJ)Z" } : Jvm.MethodName) prog_13_method_3_code (6 : Nat) (Option.some Jvm.ClassFile.FieldType.boolean)) ∈ gw := gwT (tb6 (List.mem_of_getElem? (i := 154) rfl)) rfl
theorem wd_1355 : (Jvm.Cond.methodLink "SinLensesLaw" (174 : Nat) ({ cls := "SinLensesModel", name := "back", desc := "(I)I" } : Jvm.MethodName)) ∈ gw := gwT (tb6 (List.mem_of_getElem? (i := 155) rfl)) rfl
theorem wd_1356 : (Jvm.Cond.instanceMethod ({ cls := "SinLensesModel", name := "back", desc := "(I)I" } : Jvm.MethodName)) ∈ gw := gwT (tb6 (List.mem_of_getElem? (i := 156) rfl)) rfl
theorem wd_1357 : (Jvm.Cond.selects "SinLensesModel" ({ cls := "SinLensesModel", name := "back", desc := "(I)I" } : Jvm.MethodName) ({ cls := "SinLensesModel", name := "back", desc := "(I)I" } : Jvm.MethodName)) ∈ gw := gwT (tb6 (List.mem_of_getElem? (i := 157) rfl)) rfl
theorem wd_1358 : (Jvm.Cond.code ({ cls := "SinLensesModel", name := "back", desc := "(I)I" } : Jvm.MethodName) prog_13_method_14_code (3 : Nat) (Option.some Jvm.ClassFile.FieldType.int)) ∈ gw := gwT (tb6 (List.mem_of_getElem? (i := 158) rfl)) rfl
theorem wd_1359 : (Jvm.Cond.methodLink "SinLensesModel" (189 : Nat) ({ cls := "SinLensesModel", name := "settled", desc := "(I)I" } : Jvm.MethodName)) ∈ gw := gwT (tb6 (List.mem_of_getElem? (i := 159) rfl)) rfl
theorem wd_1361 : (Jvm.Cond.instanceMethod ({ cls := "SinLensesModel", name := "settled", desc := "(I)I" } : Jvm.MethodName)) ∈ gw := gwT (tb6 (List.mem_of_getElem? (i := 161) rfl)) rfl
theorem wd_1362 : (Jvm.Cond.code ({ cls := "SinLensesModel", name := "settled", desc := "(I)I" } : Jvm.MethodName) prog_13_method_8_code (2 : Nat) (Option.some Jvm.ClassFile.FieldType.int)) ∈ gw := gwT (tb6 (List.mem_of_getElem? (i := 162) rfl)) rfl
theorem wd_1363 : (Jvm.Cond.methodLink "SinLensesLaw" (17 : Nat) ({ cls := "SinLensesModel", name := "person", desc := "()I" } : Jvm.MethodName)) ∈ gw := gwT (tb6 (List.mem_of_getElem? (i := 163) rfl)) rfl
theorem wd_1364 : (Jvm.Cond.instanceMethod ({ cls := "SinLensesModel", name := "person", desc := "()I" } : Jvm.MethodName)) ∈ gw := gwT (tb6 (List.mem_of_getElem? (i := 164) rfl)) rfl
theorem wd_1365 : (Jvm.Cond.selects "SinLensesModel" ({ cls := "SinLensesModel", name := "person", desc := "()I" } : Jvm.MethodName) ({ cls := "SinLensesModel", name := "person", desc := "()I" } : Jvm.MethodName)) ∈ gw := gwT (tb6 (List.mem_of_getElem? (i := 165) rfl)) rfl
theorem wd_1366 : (Jvm.Cond.code ({ cls := "SinLensesModel", name := "person", desc := "()I" } : Jvm.MethodName) prog_13_method_23_code (1 : Nat) (Option.some Jvm.ClassFile.FieldType.int)) ∈ gw := gwT (tb6 (List.mem_of_getElem? (i := 166) rfl)) rfl
theorem wd_1367 : (Jvm.Cond.methodLink "SinLensesModel" (205 : Nat) ({ cls := "SinLensesModel", name := "come1", desc := "(IIII)I" } : Jvm.MethodName)) ∈ gw := gwT (tb6 (List.mem_of_getElem? (i := 167) rfl)) rfl
theorem wd_1369 : (Jvm.Cond.instanceMethod ({ cls := "SinLensesModel", name := "come1", desc := "(IIII)I" } : Jvm.MethodName)) ∈ gw := gwT (tb6 (List.mem_of_getElem? (i := 169) rfl)) rfl
theorem wd_1370 : (Jvm.Cond.code ({ cls := "SinLensesModel", name := "come1", desc := "(IIII)I" } : Jvm.MethodName) prog_13_method_22_code (7 : Nat) (Option.some Jvm.ClassFile.FieldType.int)) ∈ gw := gwT (tb6 (List.mem_of_getElem? (i := 170) rfl)) rfl
theorem wd_1371 : (Jvm.Cond.constantLong "SinLensesModel" (203 : Nat) (8 : Int64)) ∈ gw := gwT (tb6 (List.mem_of_getElem? (i := 171) rfl)) rfl
theorem wd_1372 : (Jvm.Cond.methodLink "SinLensesLaw" (22 : Nat) ({ cls := "SinLensesModel", name := "of", desc := "(II)I" } : Jvm.MethodName)) ∈ gw := gwT (tb6 (List.mem_of_getElem? (i := 172) rfl)) rfl
theorem wd_1373 : (Jvm.Cond.instanceMethod ({ cls := "SinLensesModel", name := "of", desc := "(II)I" } : Jvm.MethodName)) ∈ gw := gwT (tb6 (List.mem_of_getElem? (i := 173) rfl)) rfl
theorem wd_1374 : (Jvm.Cond.selects "SinLensesModel" ({ cls := "SinLensesModel", name := "of", desc := "(II)I" } : Jvm.MethodName) ({ cls := "SinLensesModel", name := "of", desc := "(II)I" } : Jvm.MethodName)) ∈ gw := gwT (tb6 (List.mem_of_getElem? (i := 174) rfl)) rfl
theorem wd_1375 : (Jvm.Cond.code ({ cls := "SinLensesModel", name := "of", desc := "(II)I" } : Jvm.MethodName) prog_13_method_24_code (3 : Nat) (Option.some Jvm.ClassFile.FieldType.int)) ∈ gw := gwT (tb6 (List.mem_of_getElem? (i := 175) rfl)) rfl
theorem wd_1376 : (Jvm.Cond.methodLink "SinLensesModel" (209 : Nat) ({ cls := "SinLensesModel", name := "isPerson", desc := "(I)Z" } : Jvm.MethodName)) ∈ gw := gwT (tb6 (List.mem_of_getElem? (i := 176) rfl)) rfl
theorem wd_1378 : (Jvm.Cond.instanceMethod ({ cls := "SinLensesModel", name := "isPerson", desc := "(I)Z" } : Jvm.MethodName)) ∈ gw := gwT (tb6 (List.mem_of_getElem? (i := 178) rfl)) rfl
theorem wd_1379 : (Jvm.Cond.code ({ cls := "SinLensesModel", name := "isPerson", desc := "(I)Z" } : Jvm.MethodName) prog_13_method_15_code (2 : Nat) (Option.some Jvm.ClassFile.FieldType.boolean)) ∈ gw := gwT (tb6 (List.mem_of_getElem? (i := 179) rfl)) rfl
theorem wd_1380 : (Jvm.Cond.constantLong "SinLensesModel" (192 : Nat) (3 : Int64)) ∈ gw := gwT (tb6 (List.mem_of_getElem? (i := 180) rfl)) rfl
theorem wd_1381 : (Jvm.Cond.constantLong "SinLensesModel" (213 : Nat) (5 : Int64)) ∈ gw := gwT (tb6 (List.mem_of_getElem? (i := 181) rfl)) rfl
theorem wd_1382 : (Jvm.Cond.methodLink "SinLensesModel" (196 : Nat) ({ cls := "SinLensesModel", name := "lensesOf", desc := "(I)I" } : Jvm.MethodName)) ∈ gw := gwT (tb6 (List.mem_of_getElem? (i := 182) rfl)) rfl
theorem wd_1384 : (Jvm.Cond.instanceMethod ({ cls := "SinLensesModel", name := "lensesOf", desc := "(I)I" } : Jvm.MethodName)) ∈ gw := gwT (tb6 (List.mem_of_getElem? (i := 184) rfl)) rfl
theorem wd_1385 : (Jvm.Cond.code ({ cls := "SinLensesModel", name := "lensesOf", desc := "(I)I" } : Jvm.MethodName) prog_13_method_18_code (2 : Nat) (Option.some Jvm.ClassFile.FieldType.int)) ∈ gw := gwT (tb6 (List.mem_of_getElem? (i := 185) rfl)) rfl
theorem wd_1386 : (Jvm.Cond.methodLink "SinLensesModel" (215 : Nat) ({ cls := "SinLensesModel", name := "sightOf", desc := "(I)I" } : Jvm.MethodName)) ∈ gw := gwT (tb6 (List.mem_of_getElem? (i := 186) rfl)) rfl
theorem wd_1388 : (Jvm.Cond.instanceMethod ({ cls := "SinLensesModel", name := "sightOf", desc := "(I)I" } : Jvm.MethodName)) ∈ gw := gwT (tb6 (List.mem_of_getElem? (i := 188) rfl)) rfl
theorem wd_1389 : (Jvm.Cond.code ({ cls := "SinLensesModel", name := "sightOf", desc := "(I)I" } : Jvm.MethodName) prog_13_method_21_code (2 : Nat) (Option.some Jvm.ClassFile.FieldType.int)) ∈ gw := gwT (tb6 (List.mem_of_getElem? (i := 189) rfl)) rfl
theorem wd_1390 : (Jvm.Cond.methodLink "SinLensesModel" (199 : Nat) ({ cls := "SinLensesModel", name := "through", desc := "(II)I" } : Jvm.MethodName)) ∈ gw := gwT (tb6 (List.mem_of_getElem? (i := 190) rfl)) rfl
theorem wd_1392 : (Jvm.Cond.instanceMethod ({ cls := "SinLensesModel", name := "through", desc := "(II)I" } : Jvm.MethodName)) ∈ gw := gwT (tb6 (List.mem_of_getElem? (i := 192) rfl)) rfl
theorem wd_1393 : (Jvm.Cond.code ({ cls := "SinLensesModel", name := "through", desc := "(II)I" } : Jvm.MethodName) prog_13_method_20_code (5 : Nat) (Option.some Jvm.ClassFile.FieldType.int)) ∈ gw := gwT (tb6 (List.mem_of_getElem? (i := 193) rfl)) rfl
theorem wd_1394 : (Jvm.Cond.methodLink "SinLensesModel" (218 : Nat) ({ cls := "SinLensesModel", name := "doesOf", desc := "(II)I" } : Jvm.MethodName)) ∈ gw := gwT (tb6 (List.mem_of_getElem? (i := 194) rfl)) rfl
theorem wd_1396 : (Jvm.Cond.instanceMethod ({ cls := "SinLensesModel", name := "doesOf", desc := "(II)I" } : Jvm.MethodName)) ∈ gw := gwT (tb6 (List.mem_of_getElem? (i := 196) rfl)) rfl
theorem wd_1397 : (Jvm.Cond.code ({ cls := "SinLensesModel", name := "doesOf", desc := "(II)I" } : Jvm.MethodName) prog_13_method_76_code (3 : Nat) (Option.some Jvm.ClassFile.FieldType.int)) ∈ gw := gwT (tb6 (List.mem_of_getElem? (i := 197) rfl)) rfl
theorem wd_1398 : (Jvm.Cond.methodLink "SinLensesModel" (445 : Nat) ({ cls := "SinLensesModel", name := "litOf", desc := "(I)I" } : Jvm.MethodName)) ∈ gw := gwT (tb6 (List.mem_of_getElem? (i := 198) rfl)) rfl
theorem wd_1399 : (Jvm.Cond.static ({ cls := "SinLensesModel", name := "litOf", desc := "(I)I" } : Jvm.MethodName)) ∈ gw := gwT (tb6 (List.mem_of_getElem? (i := 199) rfl)) rfl
theorem wd_1400 : (Jvm.Cond.code ({ cls := "SinLensesModel", name := "litOf", desc := "(I)I" } : Jvm.MethodName) prog_13_method_71_code (3 : Nat) (Option.some Jvm.ClassFile.FieldType.int)) ∈ gw := gwT (tb6 (List.mem_of_getElem? (i := 200) rfl)) rfl
theorem wd_1401 : (Jvm.Cond.methodLink "SinLensesModel" (454 : Nat) ({ cls := "SinLensesModel", name := "tells", desc := "(IIIIJ)J" } : Jvm.MethodName)) ∈ gw := gwT (tb6 (List.mem_of_getElem? (i := 201) rfl)) rfl
theorem wd_1403 : (Jvm.Cond.instanceMethod ({ cls := "SinLensesModel", name := "tells", desc := "(IIIIJ)J" } : Jvm.MethodName)) ∈ gw := gwT (tb6 (List.mem_of_getElem? (i := 203) rfl)) rfl
theorem wd_1404 : (Jvm.Cond.code ({ cls := "SinLensesModel", name := "tells", desc := "(IIIIJ)J" } : Jvm.MethodName) prog_13_method_73_code (11 : Nat) (Option.some Jvm.ClassFile.FieldType.long)) ∈ gw := gwT (tb6 (List.mem_of_getElem? (i := 204) rfl)) rfl
theorem wd_1405 : (Jvm.Cond.constantLong "SinLensesModel" (298 : Nat) (-1 : Int64)) ∈ gw := gwT (tb6 (List.mem_of_getElem? (i := 205) rfl)) rfl
theorem wd_1406 : (Jvm.Cond.methodLink "SinLensesModel" (425 : Nat) ({ cls := "SinLensesModel", name := "sinsOf", desc := "(I)I" } : Jvm.MethodName)) ∈ gw := gwT (tb6 (List.mem_of_getElem? (i := 206) rfl)) rfl
theorem wd_1408 : (Jvm.Cond.instanceMethod ({ cls := "SinLensesModel", name := "sinsOf", desc := "(I)I" } : Jvm.MethodName)) ∈ gw := gwT (tb6 (List.mem_of_getElem? (i := 208) rfl)) rfl
theorem wd_1409 : (Jvm.Cond.code ({ cls := "SinLensesModel", name := "sinsOf", desc := "(I)I" } : Jvm.MethodName) prog_13_method_19_code (4 : Nat) (Option.some Jvm.ClassFile.FieldType.int)) ∈ gw := gwT (tb6 (List.mem_of_getElem? (i := 209) rfl)) rfl
theorem wd_1410 : (Jvm.Cond.methodLink "SinLensesModel" (448 : Nat) ({ cls := "SinLensesModel", name := "firstOf", desc := "(I)I" } : Jvm.MethodName)) ∈ gw := gwT (tb6 (List.mem_of_getElem? (i := 210) rfl)) rfl
theorem wd_1411 : (Jvm.Cond.static ({ cls := "SinLensesModel", name := "firstOf", desc := "(I)I" } : Jvm.MethodName)) ∈ gw := gwT (tb6 (List.mem_of_getElem? (i := 211) rfl)) rfl
theorem wd_1412 : (Jvm.Cond.code ({ cls := "SinLensesModel", name := "firstOf", desc := "(I)I" } : Jvm.MethodName) prog_13_method_72_code (2 : Nat) (Option.some Jvm.ClassFile.FieldType.int)) ∈ gw := gwT (tb6 (List.mem_of_getElem? (i := 212) rfl)) rfl
theorem wd_1413 : (Jvm.Cond.methodLink "SinLensesModel" (451 : Nat) ({ cls := "SinLensesModel", name := "isSo", desc := "(I)Z" } : Jvm.MethodName)) ∈ gw := gwT (tb6 (List.mem_of_getElem? (i := 213) rfl)) rfl
theorem wd_1415 : (Jvm.Cond.instanceMethod ({ cls := "SinLensesModel", name := "isSo", desc := "(I)Z" } : Jvm.MethodName)) ∈ gw := gwT (tb6 (List.mem_of_getElem? (i := 215) rfl)) rfl
theorem wd_1416 : (Jvm.Cond.code ({ cls := "SinLensesModel", name := "isSo", desc := "(I)Z" } : Jvm.MethodName) prog_13_method_70_code (2 : Nat) (Option.some Jvm.ClassFile.FieldType.boolean)) ∈ gw := gwT (tb6 (List.mem_of_getElem? (i := 216) rfl)) rfl
theorem wd_1417 : (Jvm.Cond.methodLink "SinLensesModel" (439 : Nat) ({ cls := "SinLensesModel", name := "reckonAll", desc := "(II)V" } : Jvm.MethodName)) ∈ gw := gwT (tb6 (List.mem_of_getElem? (i := 217) rfl)) rfl
theorem wd_1419 : (Jvm.Cond.instanceMethod ({ cls := "SinLensesModel", name := "reckonAll", desc := "(II)V" } : Jvm.MethodName)) ∈ gw := gwT (tb6 (List.mem_of_getElem? (i := 219) rfl)) rfl
theorem wd_1420 : (Jvm.Cond.code ({ cls := "SinLensesModel", name := "reckonAll", desc := "(II)V" } : Jvm.MethodName) prog_13_method_69_code (7 : Nat) (Option.none : Option Jvm.ClassFile.FieldType)) ∈ gw := gwT (tb6 (List.mem_of_getElem? (i := 220) rfl)) rfl
theorem wd_1421 : (Jvm.Cond.methodLink "SinLensesModel" (428 : Nat) ({ cls := "SinLensesModel", name := "reckon", desc := "(IJJ)J" } : Jvm.MethodName)) ∈ gw := gwT (tb6 (List.mem_of_getElem? (i := 221) rfl)) rfl
theorem wd_1423 : (Jvm.Cond.instanceMethod ({ cls := "SinLensesModel", name := "reckon", desc := "(IJJ)J" } : Jvm.MethodName)) ∈ gw := gwT (tb6 (List.mem_of_getElem? (i := 223) rfl)) rfl
theorem wd_1424 : (Jvm.Cond.code ({ cls := "SinLensesModel", name := "reckon", desc := "(IJJ)J" } : Jvm.MethodName) prog_13_method_68_code (6 : Nat) (Option.some Jvm.ClassFile.FieldType.long)) ∈ gw := gwT (tb6 (List.mem_of_getElem? (i := 224) rfl)) rfl
theorem wd_1425 : (Jvm.Cond.constantLong "SinLensesModel" (432 : Nat) (-1000000000 : Int64)) ∈ gw := gwT (tb6 (List.mem_of_getElem? (i := 225) rfl)) rfl
theorem wd_1426 : (Jvm.Cond.constantLong "SinLensesModel" (434 : Nat) (1000000000 : Int64)) ∈ gw := gwT (tb6 (List.mem_of_getElem? (i := 226) rfl)) rfl
theorem wd_1427 : (Jvm.Cond.methodLink "SinLensesModel" (458 : Nat) ({ cls := "SinLensesModel", name := "within", desc := "(JII)I" } : Jvm.MethodName)) ∈ gw := gwT (tb6 (List.mem_of_getElem? (i := 227) rfl)) rfl
theorem wd_1428 : (Jvm.Cond.static ({ cls := "SinLensesModel", name := "within", desc := "(JII)I" } : Jvm.MethodName)) ∈ gw := gwT (tb6 (List.mem_of_getElem? (i := 228) rfl)) rfl
theorem wd_1429 : (Jvm.Cond.code ({ cls := "SinLensesModel", name := "within", desc := "(JII)I" } : Jvm.MethodName) prog_13_method_5_code (4 : Nat) (Option.some Jvm.ClassFile.FieldType.int)) ∈ gw := gwT (tb6 (List.mem_of_getElem? (i := 229) rfl)) rfl
theorem wd_1430 : (Jvm.Cond.methodLink "SinLensesModel" (221 : Nat) ({ cls := "SinLensesModel", name := "isBarred", desc := "(I)Z" } : Jvm.MethodName)) ∈ gw := gwT (tb6 (List.mem_of_getElem? (i := 230) rfl)) rfl
theorem wd_1432 : (Jvm.Cond.instanceMethod ({ cls := "SinLensesModel", name := "isBarred", desc := "(I)Z" } : Jvm.MethodName)) ∈ gw := gwT (tb6 (List.mem_of_getElem? (i := 232) rfl)) rfl
theorem wd_1433 : (Jvm.Cond.code ({ cls := "SinLensesModel", name := "isBarred", desc := "(I)Z" } : Jvm.MethodName) prog_13_method_77_code (2 : Nat) (Option.some Jvm.ClassFile.FieldType.boolean)) ∈ gw := gwT (tb6 (List.mem_of_getElem? (i := 233) rfl)) rfl
theorem wd_1434 : (Jvm.Cond.methodLink "SinLensesLaw" (27 : Nat) ({ cls := "SinLensesModel", name := "asks", desc := "(III)I" } : Jvm.MethodName)) ∈ gw := gwT (tb6 (List.mem_of_getElem? (i := 234) rfl)) rfl
theorem wd_1435 : (Jvm.Cond.instanceMethod ({ cls := "SinLensesModel", name := "asks", desc := "(III)I" } : Jvm.MethodName)) ∈ gw := gwT (tb6 (List.mem_of_getElem? (i := 235) rfl)) rfl
theorem wd_1436 : (Jvm.Cond.selects "SinLensesModel" ({ cls := "SinLensesModel", name := "asks", desc := "(III)I" } : Jvm.MethodName) ({ cls := "SinLensesModel", name := "asks", desc := "(III)I" } : Jvm.MethodName)) ∈ gw := gwT (tb6 (List.mem_of_getElem? (i := 236) rfl)) rfl
theorem wd_1437 : (Jvm.Cond.code ({ cls := "SinLensesModel", name := "asks", desc := "(III)I" } : Jvm.MethodName) prog_13_method_25_code (4 : Nat) (Option.some Jvm.ClassFile.FieldType.int)) ∈ gw := gwT (tb6 (List.mem_of_getElem? (i := 237) rfl)) rfl
theorem wd_1438 : (Jvm.Cond.methodLink "SinLensesModel" (224 : Nat) ({ cls := "SinLensesModel", name := "isKind", desc := "(I)Z" } : Jvm.MethodName)) ∈ gw := gwT (tb6 (List.mem_of_getElem? (i := 238) rfl)) rfl
theorem wd_1439 : (Jvm.Cond.static ({ cls := "SinLensesModel", name := "isKind", desc := "(I)Z" } : Jvm.MethodName)) ∈ gw := gwT (tb6 (List.mem_of_getElem? (i := 239) rfl)) rfl
theorem wd_1440 : (Jvm.Cond.code ({ cls := "SinLensesModel", name := "isKind", desc := "(I)Z" } : Jvm.MethodName) prog_13_method_16_code (1 : Nat) (Option.some Jvm.ClassFile.FieldType.boolean)) ∈ gw := gwT (tb7 (List.mem_of_getElem? (i := 0) rfl)) rfl
theorem wd_1441 : (Jvm.Cond.methodLink "SinLensesModel" (227 : Nat) ({ cls := "SinLensesModel", name := "grindsOf", desc := "(II)I" } : Jvm.MethodName)) ∈ gw := gwT (tb7 (List.mem_of_getElem? (i := 1) rfl)) rfl
theorem wd_1443 : (Jvm.Cond.instanceMethod ({ cls := "SinLensesModel", name := "grindsOf", desc := "(II)I" } : Jvm.MethodName)) ∈ gw := gwT (tb7 (List.mem_of_getElem? (i := 3) rfl)) rfl
theorem wd_1444 : (Jvm.Cond.code ({ cls := "SinLensesModel", name := "grindsOf", desc := "(II)I" } : Jvm.MethodName) prog_13_method_74_code (3 : Nat) (Option.some Jvm.ClassFile.FieldType.int)) ∈ gw := gwT (tb7 (List.mem_of_getElem? (i := 4) rfl)) rfl
theorem wd_1445 : (Jvm.Cond.methodLink "SinLensesModel" (230 : Nat) ({ cls := "SinLensesModel", name := "growsOf", desc := "(II)I" } : Jvm.MethodName)) ∈ gw := gwT (tb7 (List.mem_of_getElem? (i := 5) rfl)) rfl
theorem wd_1447 : (Jvm.Cond.instanceMethod ({ cls := "SinLensesModel", name := "growsOf", desc := "(II)I" } : Jvm.MethodName)) ∈ gw := gwT (tb7 (List.mem_of_getElem? (i := 7) rfl)) rfl
theorem wd_1448 : (Jvm.Cond.code ({ cls := "SinLensesModel", name := "growsOf", desc := "(II)I" } : Jvm.MethodName) prog_13_method_75_code (3 : Nat) (Option.some Jvm.ClassFile.FieldType.int)) ∈ gw := gwT (tb7 (List.mem_of_getElem? (i := 8) rfl)) rfl
theorem wd_1449 : (Jvm.Cond.methodLink "SinLensesLaw" (31 : Nat) ({ cls := "SinLensesModel", name := "glass", desc := "(II)I" } : Jvm.MethodName)) ∈ gw := gwT (tb7 (List.mem_of_getElem? (i := 9) rfl)) rfl
theorem wd_1450 : (Jvm.Cond.instanceMethod ({ cls := "SinLensesModel", name := "glass", desc := "(II)I" } : Jvm.MethodName)) ∈ gw := gwT (tb7 (List.mem_of_getElem? (i := 10) rfl)) rfl
theorem wd_1451 : (Jvm.Cond.selects "SinLensesModel" ({ cls := "SinLensesModel", name := "glass", desc := "(II)I" } : Jvm.MethodName) ({ cls := "SinLensesModel", name := "glass", desc := "(II)I" } : Jvm.MethodName)) ∈ gw := gwT (tb7 (List.mem_of_getElem? (i := 11) rfl)) rfl
theorem wd_1452 : (Jvm.Cond.code ({ cls := "SinLensesModel", name := "glass", desc := "(II)I" } : Jvm.MethodName) prog_13_method_28_code (3 : Nat) (Option.some Jvm.ClassFile.FieldType.int)) ∈ gw := gwT (tb7 (List.mem_of_getElem? (i := 12) rfl)) rfl
theorem wd_1453 : (Jvm.Cond.methodLink "SinLensesModel" (235 : Nat) ({ cls := "SinLensesModel", name := "isGlass", desc := "(I)Z" } : Jvm.MethodName)) ∈ gw := gwT (tb7 (List.mem_of_getElem? (i := 13) rfl)) rfl
theorem wd_1454 : (Jvm.Cond.static ({ cls := "SinLensesModel", name := "isGlass", desc := "(I)Z" } : Jvm.MethodName)) ∈ gw := gwT (tb7 (List.mem_of_getElem? (i := 14) rfl)) rfl
theorem wd_1455 : (Jvm.Cond.code ({ cls := "SinLensesModel", name := "isGlass", desc := "(I)Z" } : Jvm.MethodName) prog_13_method_26_code (3 : Nat) (Option.some Jvm.ClassFile.FieldType.boolean)) ∈ gw := gwT (tb7 (List.mem_of_getElem? (i := 15) rfl)) rfl
theorem wd_1456 : (Jvm.Cond.constantLong "SinLensesModel" (233 : Nat) (8888 : Int64)) ∈ gw := gwT (tb7 (List.mem_of_getElem? (i := 16) rfl)) rfl
theorem wd_1457 : (Jvm.Cond.methodLink "SinLensesModel" (238 : Nat) ({ cls := "SinLensesModel", name := "putGlass", desc := "(II)V" } : Jvm.MethodName)) ∈ gw := gwT (tb7 (List.mem_of_getElem? (i := 17) rfl)) rfl
theorem wd_1459 : (Jvm.Cond.instanceMethod ({ cls := "SinLensesModel", name := "putGlass", desc := "(II)V" } : Jvm.MethodName)) ∈ gw := gwT (tb7 (List.mem_of_getElem? (i := 19) rfl)) rfl
theorem wd_1460 : (Jvm.Cond.code ({ cls := "SinLensesModel", name := "putGlass", desc := "(II)V" } : Jvm.MethodName) prog_13_method_27_code (6 : Nat) (Option.none : Option Jvm.ClassFile.FieldType)) ∈ gw := gwT (tb7 (List.mem_of_getElem? (i := 20) rfl)) rfl
theorem wd_1461 : (Jvm.Cond.methodLink "SinLensesLaw" (35 : Nat) ({ cls := "SinLensesModel", name := "wanted", desc := "(II)I" } : Jvm.MethodName)) ∈ gw := gwT (tb7 (List.mem_of_getElem? (i := 21) rfl)) rfl
theorem wd_1462 : (Jvm.Cond.instanceMethod ({ cls := "SinLensesModel", name := "wanted", desc := "(II)I" } : Jvm.MethodName)) ∈ gw := gwT (tb7 (List.mem_of_getElem? (i := 22) rfl)) rfl
theorem wd_1463 : (Jvm.Cond.selects "SinLensesModel" ({ cls := "SinLensesModel", name := "wanted", desc := "(II)I" } : Jvm.MethodName) ({ cls := "SinLensesModel", name := "wanted", desc := "(II)I" } : Jvm.MethodName)) ∈ gw := gwT (tb7 (List.mem_of_getElem? (i := 23) rfl)) rfl
theorem wd_1464 : (Jvm.Cond.code ({ cls := "SinLensesModel", name := "wanted", desc := "(II)I" } : Jvm.MethodName) prog_13_method_29_code (3 : Nat) (Option.some Jvm.ClassFile.FieldType.int)) ∈ gw := gwT (tb7 (List.mem_of_getElem? (i := 24) rfl)) rfl
theorem wd_1465 : (Jvm.Cond.methodLink "SinLensesModel" (242 : Nat) ({ cls := "SinLensesModel", name := "change", desc := "(II)I" } : Jvm.MethodName)) ∈ gw := gwT (tb7 (List.mem_of_getElem? (i := 25) rfl)) rfl
theorem wd_1467 : (Jvm.Cond.instanceMethod ({ cls := "SinLensesModel", name := "change", desc := "(II)I" } : Jvm.MethodName)) ∈ gw := gwT (tb7 (List.mem_of_getElem? (i := 27) rfl)) rfl
theorem wd_1468 : (Jvm.Cond.code ({ cls := "SinLensesModel", name := "change", desc := "(II)I" } : Jvm.MethodName) prog_13_method_7_code (4 : Nat) (Option.some Jvm.ClassFile.FieldType.int)) ∈ gw := gwT (tb7 (List.mem_of_getElem? (i := 28) rfl)) rfl
theorem wd_1469 : (Jvm.Cond.methodLink "SinLensesLaw" (39 : Nat) ({ cls := "SinLensesModel", name := "lens", desc := "(II)I" } : Jvm.MethodName)) ∈ gw := gwT (tb7 (List.mem_of_getElem? (i := 29) rfl)) rfl
theorem wd_1470 : (Jvm.Cond.instanceMethod ({ cls := "SinLensesModel", name := "lens", desc := "(II)I" } : Jvm.MethodName)) ∈ gw := gwT (tb7 (List.mem_of_getElem? (i := 30) rfl)) rfl
theorem wd_1471 : (Jvm.Cond.selects "SinLensesModel" ({ cls := "SinLensesModel", name := "lens", desc := "(II)I" } : Jvm.MethodName) ({ cls := "SinLensesModel", name := "lens", desc := "(II)I" } : Jvm.MethodName)) ∈ gw := gwT (tb7 (List.mem_of_getElem? (i := 31) rfl)) rfl
theorem wd_1472 : (Jvm.Cond.code ({ cls := "SinLensesModel", name := "lens", desc := "(II)I" } : Jvm.MethodName) prog_13_method_30_code (3 : Nat) (Option.some Jvm.ClassFile.FieldType.int)) ∈ gw := gwT (tb7 (List.mem_of_getElem? (i := 32) rfl)) rfl
theorem wd_1473 : (Jvm.Cond.constantLong "SinLensesModel" (245 : Nat) (7 : Int64)) ∈ gw := gwT (tb7 (List.mem_of_getElem? (i := 33) rfl)) rfl
theorem wd_1474 : (Jvm.Cond.methodLink "SinLensesModel" (247 : Nat) ({ cls := "SinLensesModel", name := "isSight", desc := "(I)Z" } : Jvm.MethodName)) ∈ gw := gwT (tb7 (List.mem_of_getElem? (i := 34) rfl)) rfl
theorem wd_1475 : (Jvm.Cond.static ({ cls := "SinLensesModel", name := "isSight", desc := "(I)Z" } : Jvm.MethodName)) ∈ gw := gwT (tb7 (List.mem_of_getElem? (i := 35) rfl)) rfl
theorem wd_1476 : (Jvm.Cond.code ({ cls := "SinLensesModel", name := "isSight", desc := "(I)Z" } : Jvm.MethodName) prog_13_method_17_code (1 : Nat) (Option.some Jvm.ClassFile.FieldType.boolean)) ∈ gw := gwT (tb7 (List.mem_of_getElem? (i := 36) rfl)) rfl
theorem wd_1477 : (Jvm.Cond.constantLong "SinLensesModel" (194 : Nat) (255 : Int64)) ∈ gw := gwT (tb7 (List.mem_of_getElem? (i := 37) rfl)) rfl
theorem wd_1478 : (Jvm.Cond.methodLink "SinLensesLaw" (43 : Nat) ({ cls := "SinLensesModel", name := "terms", desc := "(II)I" } : Jvm.MethodName)) ∈ gw := gwT (tb7 (List.mem_of_getElem? (i := 38) rfl)) rfl
theorem wd_1479 : (Jvm.Cond.instanceMethod ({ cls := "SinLensesModel", name := "terms", desc := "(II)I" } : Jvm.MethodName)) ∈ gw := gwT (tb7 (List.mem_of_getElem? (i := 39) rfl)) rfl
theorem wd_1480 : (Jvm.Cond.selects "SinLensesModel" ({ cls := "SinLensesModel", name := "terms", desc := "(II)I" } : Jvm.MethodName) ({ cls := "SinLensesModel", name := "terms", desc := "(II)I" } : Jvm.MethodName)) ∈ gw := gwT (tb7 (List.mem_of_getElem? (i := 40) rfl)) rfl
theorem wd_1481 : (Jvm.Cond.code ({ cls := "SinLensesModel", name := "terms", desc := "(II)I" } : Jvm.MethodName) prog_13_method_32_code (3 : Nat) (Option.some Jvm.ClassFile.FieldType.int)) ∈ gw := gwT (tb7 (List.mem_of_getElem? (i := 41) rfl)) rfl
theorem wd_1482 : (Jvm.Cond.methodLink "SinLensesModel" (256 : Nat) ({ cls := "SinLensesModel", name := "isTerm", desc := "(II)Z" } : Jvm.MethodName)) ∈ gw := gwT (tb7 (List.mem_of_getElem? (i := 42) rfl)) rfl
theorem wd_1483 : (Jvm.Cond.static ({ cls := "SinLensesModel", name := "isTerm", desc := "(II)Z" } : Jvm.MethodName)) ∈ gw := gwT (tb7 (List.mem_of_getElem? (i := 43) rfl)) rfl
theorem wd_1484 : (Jvm.Cond.code ({ cls := "SinLensesModel", name := "isTerm", desc := "(II)Z" } : Jvm.MethodName) prog_13_method_31_code (2 : Nat) (Option.some Jvm.ClassFile.FieldType.boolean)) ∈ gw := gwT (tb7 (List.mem_of_getElem? (i := 44) rfl)) rfl
theorem wd_1485 : (Jvm.Cond.constantLong "SinLensesModel" (250 : Nat) (999 : Int64)) ∈ gw := gwT (tb7 (List.mem_of_getElem? (i := 45) rfl)) rfl
theorem wd_1486 : (Jvm.Cond.constantLong "SinLensesModel" (252 : Nat) (10 : Int64)) ∈ gw := gwT (tb7 (List.mem_of_getElem? (i := 46) rfl)) rfl
theorem wd_1487 : (Jvm.Cond.constantLong "SinLensesModel" (254 : Nat) (9 : Int64)) ∈ gw := gwT (tb7 (List.mem_of_getElem? (i := 47) rfl)) rfl
theorem wd_1488 : (Jvm.Cond.methodLink "SinLensesLaw" (57 : Nat) ({ cls := "SinLensesModel", name := "row", desc := "()I" } : Jvm.MethodName)) ∈ gw := gwT (tb7 (List.mem_of_getElem? (i := 48) rfl)) rfl
theorem wd_1489 : (Jvm.Cond.instanceMethod ({ cls := "SinLensesModel", name := "row", desc := "()I" } : Jvm.MethodName)) ∈ gw := gwT (tb7 (List.mem_of_getElem? (i := 49) rfl)) rfl
theorem wd_1490 : (Jvm.Cond.selects "SinLensesModel" ({ cls := "SinLensesModel", name := "row", desc := "()I" } : Jvm.MethodName) ({ cls := "SinLensesModel", name := "row", desc := "()I" } : Jvm.MethodName)) ∈ gw := gwT (tb7 (List.mem_of_getElem? (i := 50) rfl)) rfl
theorem wd_1491 : (Jvm.Cond.code ({ cls := "SinLensesModel", name := "row", desc := "()I" } : Jvm.MethodName) prog_13_method_33_code (4 : Nat) (Option.some Jvm.ClassFile.FieldType.int)) ∈ gw := gwT (tb7 (List.mem_of_getElem? (i := 51) rfl)) rfl
theorem wd_1492 : (Jvm.Cond.methodLink "SinLensesLaw" (61 : Nat) ({ cls := "SinLensesModel", name := "smears", desc := "()I" } : Jvm.MethodName)) ∈ gw := gwT (tb7 (List.mem_of_getElem? (i := 52) rfl)) rfl
theorem wd_1493 : (Jvm.Cond.instanceMethod ({ cls := "SinLensesModel", name := "smears", desc := "()I" } : Jvm.MethodName)) ∈ gw := gwT (tb7 (List.mem_of_getElem? (i := 53) rfl)) rfl
theorem wd_1494 : (Jvm.Cond.selects "SinLensesModel" ({ cls := "SinLensesModel", name := "smears", desc := "()I" } : Jvm.MethodName) ({ cls := "SinLensesModel", name := "smears", desc := "()I" } : Jvm.MethodName)) ∈ gw := gwT (tb7 (List.mem_of_getElem? (i := 54) rfl)) rfl
theorem wd_1495 : (Jvm.Cond.code ({ cls := "SinLensesModel", name := "smears", desc := "()I" } : Jvm.MethodName) prog_13_method_34_code (1 : Nat) (Option.some Jvm.ClassFile.FieldType.int)) ∈ gw := gwT (tb7 (List.mem_of_getElem? (i := 55) rfl)) rfl
theorem wd_1496 : (Jvm.Cond.methodLink "SinLensesLaw" (48 : Nat) ({ cls := "SinLensesModel", name := "feed", desc := "(IIIII)I" } : Jvm.MethodName)) ∈ gw := gwT (tb7 (List.mem_of_getElem? (i := 56) rfl)) rfl
theorem wd_1497 : (Jvm.Cond.instanceMethod ({ cls := "SinLensesModel", name := "feed", desc := "(IIIII)I" } : Jvm.MethodName)) ∈ gw := gwT (tb7 (List.mem_of_getElem? (i := 57) rfl)) rfl
theorem wd_1498 : (Jvm.Cond.selects "SinLensesModel" ({ cls := "SinLensesModel", name := "feed", desc := "(IIIII)I" } : Jvm.MethodName) ({ cls := "SinLensesModel", name := "feed", desc := "(IIIII)I" } : Jvm.MethodName)) ∈ gw := gwT (tb7 (List.mem_of_getElem? (i := 58) rfl)) rfl
theorem wd_1499 : (Jvm.Cond.code ({ cls := "SinLensesModel", name := "feed", desc := "(IIIII)I" } : Jvm.MethodName) prog_13_method_36_code (6 : Nat) (Option.some Jvm.ClassFile.FieldType.int)) ∈ gw := gwT (tb7 (List.mem_of_getElem? (i := 59) rfl)) rfl
theorem wd_1500 : (Jvm.Cond.methodLink "SinLensesModel" (265 : Nat) ({ cls := "SinLensesModel", name := "four", desc := "(I)V" } : Jvm.MethodName)) ∈ gw := gwT (tb7 (List.mem_of_getElem? (i := 60) rfl)) rfl
theorem wd_1502 : (Jvm.Cond.instanceMethod ({ cls := "SinLensesModel", name := "four", desc := "(I)V" } : Jvm.MethodName)) ∈ gw := gwT (tb7 (List.mem_of_getElem? (i := 62) rfl)) rfl
theorem wd_1503 : (Jvm.Cond.code ({ cls := "SinLensesModel", name := "four", desc := "(I)V" } : Jvm.MethodName) prog_13_method_35_code (3 : Nat) (Option.none : Option Jvm.ClassFile.FieldType)) ∈ gw := gwT (tb7 (List.mem_of_getElem? (i := 63) rfl)) rfl
theorem wd_1504 : (Jvm.Cond.methodLink "SinLensesLaw" (53 : Nat) ({ cls := "SinLensesModel", name := "end", desc := "(I)I" } : Jvm.MethodName)) ∈ gw := gwT (tb7 (List.mem_of_getElem? (i := 64) rfl)) rfl
theorem wd_1505 : (Jvm.Cond.instanceMethod ({ cls := "SinLensesModel", name := "end", desc := "(I)I" } : Jvm.MethodName)) ∈ gw := gwT (tb7 (List.mem_of_getElem? (i := 65) rfl)) rfl
theorem wd_1506 : (Jvm.Cond.selects "SinLensesModel" ({ cls := "SinLensesModel", name := "end", desc := "(I)I" } : Jvm.MethodName) ({ cls := "SinLensesModel", name := "end", desc := "(I)I" } : Jvm.MethodName)) ∈ gw := gwT (tb7 (List.mem_of_getElem? (i := 66) rfl)) rfl
theorem wd_1507 : (Jvm.Cond.code ({ cls := "SinLensesModel", name := "end", desc := "(I)I" } : Jvm.MethodName) prog_13_method_37_code (2 : Nat) (Option.some Jvm.ClassFile.FieldType.int)) ∈ gw := gwT (tb7 (List.mem_of_getElem? (i := 67) rfl)) rfl
theorem wd_1508 : (Jvm.Cond.methodLink "SinLensesLaw" (73 : Nat) ({ cls := "SinLensesModel", name := "fault", desc := "()I" } : Jvm.MethodName)) ∈ gw := gwT (tb7 (List.mem_of_getElem? (i := 68) rfl)) rfl
theorem wd_1509 : (Jvm.Cond.instanceMethod ({ cls := "SinLensesModel", name := "fault", desc := "()I" } : Jvm.MethodName)) ∈ gw := gwT (tb7 (List.mem_of_getElem? (i := 69) rfl)) rfl
theorem wd_1510 : (Jvm.Cond.selects "SinLensesModel" ({ cls := "SinLensesModel", name := "fault", desc := "()I" } : Jvm.MethodName) ({ cls := "SinLensesModel", name := "fault", desc := "()I" } : Jvm.MethodName)) ∈ gw := gwT (tb7 (List.mem_of_getElem? (i := 70) rfl)) rfl
theorem wd_1511 : (Jvm.Cond.code ({ cls := "SinLensesModel", name := "fault", desc := "()I" } : Jvm.MethodName) prog_13_method_46_code (1 : Nat) (Option.some Jvm.ClassFile.FieldType.int)) ∈ gw := gwT (tb7 (List.mem_of_getElem? (i := 71) rfl)) rfl
theorem wd_1512 : (Jvm.Cond.methodLink "SinLensesLaw" (65 : Nat) ({ cls := "SinLensesModel", name := "law", desc := "()I" } : Jvm.MethodName)) ∈ gw := gwT (tb7 (List.mem_of_getElem? (i := 72) rfl)) rfl
theorem wd_1513 : (Jvm.Cond.instanceMethod ({ cls := "SinLensesModel", name := "law", desc := "()I" } : Jvm.MethodName)) ∈ gw := gwT (tb7 (List.mem_of_getElem? (i := 73) rfl)) rfl
theorem wd_1514 : (Jvm.Cond.selects "SinLensesModel" ({ cls := "SinLensesModel", name := "law", desc := "()I" } : Jvm.MethodName) ({ cls := "SinLensesModel", name := "law", desc := "()I" } : Jvm.MethodName)) ∈ gw := gwT (tb7 (List.mem_of_getElem? (i := 74) rfl)) rfl
theorem wd_1515 : (Jvm.Cond.code ({ cls := "SinLensesModel", name := "law", desc := "()I" } : Jvm.MethodName) prog_13_method_65_code (3 : Nat) (Option.some Jvm.ClassFile.FieldType.int)) ∈ gw := gwT (tb7 (List.mem_of_getElem? (i := 75) rfl)) rfl
theorem wd_1516 : (Jvm.Cond.methodLink "SinLensesModel" (407 : Nat) ({ cls := "SinLensesModel", name := "beginText", desc := "(Z)V" } : Jvm.MethodName)) ∈ gw := gwT (tb7 (List.mem_of_getElem? (i := 76) rfl)) rfl
theorem wd_1518 : (Jvm.Cond.instanceMethod ({ cls := "SinLensesModel", name := "beginText", desc := "(Z)V" } : Jvm.MethodName)) ∈ gw := gwT (tb7 (List.mem_of_getElem? (i := 78) rfl)) rfl
theorem wd_1519 : (Jvm.Cond.code ({ cls := "SinLensesModel", name := "beginText", desc := "(Z)V" } : Jvm.MethodName) prog_13_method_62_code (2 : Nat) (Option.none : Option Jvm.ClassFile.FieldType)) ∈ gw := gwT (tb7 (List.mem_of_getElem? (i := 79) rfl)) rfl
theorem wd_1520 : (Jvm.Cond.methodLink "SinLensesModel" (396 : Nat) ({ cls := "SinLensesModel", name := "begin", desc := "()V" } : Jvm.MethodName)) ∈ gw := gwT (tb7 (List.mem_of_getElem? (i := 80) rfl)) rfl
theorem wd_1522 : (Jvm.Cond.instanceMethod ({ cls := "SinLensesModel", name := "begin", desc := "()V" } : Jvm.MethodName)) ∈ gw := gwT (tb7 (List.mem_of_getElem? (i := 82) rfl)) rfl
theorem wd_1523 : (Jvm.Cond.code ({ cls := "SinLensesModel", name := "begin", desc := "()V" } : Jvm.MethodName) prog_13_method_40_code (1 : Nat) (Option.none : Option Jvm.ClassFile.FieldType)) ∈ gw := gwT (tb7 (List.mem_of_getElem? (i := 83) rfl)) rfl
theorem wd_1524 : (Jvm.Cond.methodLink "SinLensesModel" (275 : Nat) ({ cls := "SinLensesModel", name := "next", desc := "()V" } : Jvm.MethodName)) ∈ gw := gwT (tb7 (List.mem_of_getElem? (i := 84) rfl)) rfl
theorem wd_1526 : (Jvm.Cond.instanceMethod ({ cls := "SinLensesModel", name := "next", desc := "()V" } : Jvm.MethodName)) ∈ gw := gwT (tb7 (List.mem_of_getElem? (i := 86) rfl)) rfl
theorem wd_1527 : (Jvm.Cond.code ({ cls := "SinLensesModel", name := "next", desc := "()V" } : Jvm.MethodName) prog_13_method_41_code (1 : Nat) (Option.none : Option Jvm.ClassFile.FieldType)) ∈ gw := gwT (tb7 (List.mem_of_getElem? (i := 87) rfl)) rfl
theorem wd_1528 : (Jvm.Cond.methodLink "SinLensesModel" (285 : Nat) ({ cls := "SinLensesModel", name := "isSmall", desc := "(I)Z" } : Jvm.MethodName)) ∈ gw := gwT (tb7 (List.mem_of_getElem? (i := 88) rfl)) rfl
theorem wd_1529 : (Jvm.Cond.static ({ cls := "SinLensesModel", name := "isSmall", desc := "(I)Z" } : Jvm.MethodName)) ∈ gw := gwT (tb7 (List.mem_of_getElem? (i := 89) rfl)) rfl
theorem wd_1530 : (Jvm.Cond.code ({ cls := "SinLensesModel", name := "isSmall", desc := "(I)Z" } : Jvm.MethodName) prog_13_method_38_code (1 : Nat) (Option.some Jvm.ClassFile.FieldType.boolean)) ∈ gw := gwT (tb7 (List.mem_of_getElem? (i := 90) rfl)) rfl
theorem wd_1531 : (Jvm.Cond.methodLink "SinLensesModel" (288 : Nat) ({ cls := "SinLensesModel", name := "isDigit", desc := "(I)Z" } : Jvm.MethodName)) ∈ gw := gwT (tb7 (List.mem_of_getElem? (i := 91) rfl)) rfl
theorem wd_1532 : (Jvm.Cond.static ({ cls := "SinLensesModel", name := "isDigit", desc := "(I)Z" } : Jvm.MethodName)) ∈ gw := gwT (tb7 (List.mem_of_getElem? (i := 92) rfl)) rfl
theorem wd_1533 : (Jvm.Cond.code ({ cls := "SinLensesModel", name := "isDigit", desc := "(I)Z" } : Jvm.MethodName) prog_13_method_39_code (1 : Nat) (Option.some Jvm.ClassFile.FieldType.boolean)) ∈ gw := gwT (tb7 (List.mem_of_getElem? (i := 93) rfl)) rfl
theorem wd_1534 : (Jvm.Cond.constantLong "SinLensesModel" (294 : Nat) (32 : Int64)) ∈ gw := gwT (tb7 (List.mem_of_getElem? (i := 94) rfl)) rfl
theorem wd_1535 : (Jvm.Cond.constantLong "SinLensesModel" (296 : Nat) (96 : Int64)) ∈ gw := gwT (tb7 (List.mem_of_getElem? (i := 95) rfl)) rfl
theorem wd_1536 : (Jvm.Cond.constantLong "SinLensesModel" (300 : Nat) (1000000 : Int64)) ∈ gw := gwT (tb7 (List.mem_of_getElem? (i := 96) rfl)) rfl
theorem wd_1537 : (Jvm.Cond.constantLong "SinLensesModel" (302 : Nat) (48 : Int64)) ∈ gw := gwT (tb7 (List.mem_of_getElem? (i := 97) rfl)) rfl
theorem wd_1538 : (Jvm.Cond.methodLink "SinLensesModel" (410 : Nat) ({ cls := "SinLensesModel", name := "readLaw", desc := "()V" } : Jvm.MethodName)) ∈ gw := gwT (tb7 (List.mem_of_getElem? (i := 98) rfl)) rfl
theorem wd_1540 : (Jvm.Cond.instanceMethod ({ cls := "SinLensesModel", name := "readLaw", desc := "()V" } : Jvm.MethodName)) ∈ gw := gwT (tb7 (List.mem_of_getElem? (i := 100) rfl)) rfl
theorem wd_1541 : (Jvm.Cond.code ({ cls := "SinLensesModel", name := "readLaw", desc := "()V" } : Jvm.MethodName) prog_13_method_64_code (4 : Nat) (Option.none : Option Jvm.ClassFile.FieldType)) ∈ gw := gwT (tb7 (List.mem_of_getElem? (i := 101) rfl)) rfl
theorem wd_1542 : (Jvm.Cond.methodLink "SinLensesModel" (328 : Nat) ({ cls := "SinLensesModel", name := "isWord", desc := "(J)Z" } : Jvm.MethodName)) ∈ gw := gwT (tb7 (List.mem_of_getElem? (i := 102) rfl)) rfl
theorem wd_1544 : (Jvm.Cond.instanceMethod ({ cls := "SinLensesModel", name := "isWord", desc := "(J)Z" } : Jvm.MethodName)) ∈ gw := gwT (tb7 (List.mem_of_getElem? (i := 104) rfl)) rfl
theorem wd_1545 : (Jvm.Cond.code ({ cls := "SinLensesModel", name := "isWord", desc := "(J)Z" } : Jvm.MethodName) prog_13_method_42_code (3 : Nat) (Option.some Jvm.ClassFile.FieldType.boolean)) ∈ gw := gwT (tb7 (List.mem_of_getElem? (i := 105) rfl)) rfl
theorem wd_1546 : (Jvm.Cond.methodLink "SinLensesModel" (304 : Nat) ({ cls := "SinLensesModel", name := "must", desc := "(Z)V" } : Jvm.MethodName)) ∈ gw := gwT (tb7 (List.mem_of_getElem? (i := 106) rfl)) rfl
theorem wd_1548 : (Jvm.Cond.instanceMethod ({ cls := "SinLensesModel", name := "must", desc := "(Z)V" } : Jvm.MethodName)) ∈ gw := gwT (tb7 (List.mem_of_getElem? (i := 108) rfl)) rfl
theorem wd_1549 : (Jvm.Cond.code ({ cls := "SinLensesModel", name := "must", desc := "(Z)V" } : Jvm.MethodName) prog_13_method_44_code (2 : Nat) (Option.none : Option Jvm.ClassFile.FieldType)) ∈ gw := gwT (tb7 (List.mem_of_getElem? (i := 109) rfl)) rfl
theorem wd_1550 : (Jvm.Cond.methodLink "SinLensesModel" (402 : Nat) ({ cls := "SinLensesModel", name := "readExpression", desc := "(Z)V" } : Jvm.MethodName)) ∈ gw := gwT (tb7 (List.mem_of_getElem? (i := 110) rfl)) rfl
theorem wd_1552 : (Jvm.Cond.instanceMethod ({ cls := "SinLensesModel", name := "readExpression", desc := "(Z)V" } : Jvm.MethodName)) ∈ gw := gwT (tb7 (List.mem_of_getElem? (i := 112) rfl)) rfl
theorem wd_1553 : (Jvm.Cond.code ({ cls := "SinLensesModel", name := "readExpression", desc := "(Z)V" } : Jvm.MethodName) prog_13_method_61_code (3 : Nat) (Option.none : Option Jvm.ClassFile.FieldType)) ∈ gw := gwT (tb7 (List.mem_of_getElem? (i := 113) rfl)) rfl
theorem wd_1554 : (Jvm.Cond.methodLink "SinLensesModel" (386 : Nat) ({ cls := "SinLensesModel", name := "readPlain", desc := "()I" } : Jvm.MethodName)) ∈ gw := gwT (tb7 (List.mem_of_getElem? (i := 114) rfl)) rfl
theorem wd_1556 : (Jvm.Cond.instanceMethod ({ cls := "SinLensesModel", name := "readPlain", desc := "()I" } : Jvm.MethodName)) ∈ gw := gwT (tb7 (List.mem_of_getElem? (i := 116) rfl)) rfl
theorem wd_1557 : (Jvm.Cond.code ({ cls := "SinLensesModel", name := "readPlain", desc := "()I" } : Jvm.MethodName) prog_13_method_58_code (1 : Nat) (Option.some Jvm.ClassFile.FieldType.int)) ∈ gw := gwT (tb7 (List.mem_of_getElem? (i := 117) rfl)) rfl
theorem wd_1558 : (Jvm.Cond.constantLong "SinLensesModel" (367 : Nat) (14836 : Int64)) ∈ gw := gwT (tb7 (List.mem_of_getElem? (i := 118) rfl)) rfl
theorem wd_1559 : (Jvm.Cond.methodLink "SinLensesModel" (335 : Nat) ({ cls := "SinLensesModel", name := "push", desc := "(II)V" } : Jvm.MethodName)) ∈ gw := gwT (tb7 (List.mem_of_getElem? (i := 119) rfl)) rfl
theorem wd_1561 : (Jvm.Cond.instanceMethod ({ cls := "SinLensesModel", name := "push", desc := "(II)V" } : Jvm.MethodName)) ∈ gw := gwT (tb7 (List.mem_of_getElem? (i := 121) rfl)) rfl
theorem wd_1562 : (Jvm.Cond.code ({ cls := "SinLensesModel", name := "push", desc := "(II)V" } : Jvm.MethodName) prog_13_method_48_code (3 : Nat) (Option.none : Option Jvm.ClassFile.FieldType)) ∈ gw := gwT (tb7 (List.mem_of_getElem? (i := 122) rfl)) rfl
theorem wd_1563 : (Jvm.Cond.methodLink "SinLensesModel" (341 : Nat) ({ cls := "SinLensesModel", name := "isSign", desc := "(I)Z" } : Jvm.MethodName)) ∈ gw := gwT (tb7 (List.mem_of_getElem? (i := 123) rfl)) rfl
theorem wd_1565 : (Jvm.Cond.instanceMethod ({ cls := "SinLensesModel", name := "isSign", desc := "(I)Z" } : Jvm.MethodName)) ∈ gw := gwT (tb7 (List.mem_of_getElem? (i := 125) rfl)) rfl
theorem wd_1566 : (Jvm.Cond.code ({ cls := "SinLensesModel", name := "isSign", desc := "(I)Z" } : Jvm.MethodName) prog_13_method_43_code (2 : Nat) (Option.some Jvm.ClassFile.FieldType.boolean)) ∈ gw := gwT (tb7 (List.mem_of_getElem? (i := 126) rfl)) rfl
theorem wd_1567 : (Jvm.Cond.methodLink "SinLensesModel" (344 : Nat) ({ cls := "SinLensesModel", name := "openBracket", desc := "(I)V" } : Jvm.MethodName)) ∈ gw := gwT (tb7 (List.mem_of_getElem? (i := 127) rfl)) rfl
theorem wd_1569 : (Jvm.Cond.instanceMethod ({ cls := "SinLensesModel", name := "openBracket", desc := "(I)V" } : Jvm.MethodName)) ∈ gw := gwT (tb7 (List.mem_of_getElem? (i := 129) rfl)) rfl
theorem wd_1570 : (Jvm.Cond.code ({ cls := "SinLensesModel", name := "openBracket", desc := "(I)V" } : Jvm.MethodName) prog_13_method_55_code (2 : Nat) (Option.none : Option Jvm.ClassFile.FieldType)) ∈ gw := gwT (tb7 (List.mem_of_getElem? (i := 130) rfl)) rfl
theorem wd_1571 : (Jvm.Cond.methodLink "SinLensesModel" (369 : Nat) ({ cls := "SinLensesModel", name := "readPart", desc := "()I" } : Jvm.MethodName)) ∈ gw := gwT (tb7 (List.mem_of_getElem? (i := 131) rfl)) rfl
theorem wd_1573 : (Jvm.Cond.instanceMethod ({ cls := "SinLensesModel", name := "readPart", desc := "()I" } : Jvm.MethodName)) ∈ gw := gwT (tb7 (List.mem_of_getElem? (i := 133) rfl)) rfl
theorem wd_1574 : (Jvm.Cond.code ({ cls := "SinLensesModel", name := "readPart", desc := "()I" } : Jvm.MethodName) prog_13_method_57_code (4 : Nat) (Option.some Jvm.ClassFile.FieldType.int)) ∈ gw := gwT (tb7 (List.mem_of_getElem? (i := 134) rfl)) rfl
theorem wd_1575 : (Jvm.Cond.methodLink "SinLensesModel" (350 : Nat) ({ cls := "SinLensesModel", name := "orderPartAt", desc := "()I" } : Jvm.MethodName)) ∈ gw := gwT (tb7 (List.mem_of_getElem? (i := 135) rfl)) rfl
theorem wd_1577 : (Jvm.Cond.instanceMethod ({ cls := "SinLensesModel", name := "orderPartAt", desc := "()I" } : Jvm.MethodName)) ∈ gw := gwT (tb7 (List.mem_of_getElem? (i := 137) rfl)) rfl
theorem wd_1578 : (Jvm.Cond.code ({ cls := "SinLensesModel", name := "orderPartAt", desc := "()I" } : Jvm.MethodName) prog_13_method_54_code (3 : Nat) (Option.some Jvm.ClassFile.FieldType.int)) ∈ gw := gwT (tb7 (List.mem_of_getElem? (i := 138) rfl)) rfl
theorem wd_1579 : (Jvm.Cond.methodLink "SinLensesModel" (354 : Nat) ({ cls := "SinLensesModel", name := "partAt", desc := "()I" } : Jvm.MethodName)) ∈ gw := gwT (tb7 (List.mem_of_getElem? (i := 139) rfl)) rfl
theorem wd_1581 : (Jvm.Cond.instanceMethod ({ cls := "SinLensesModel", name := "partAt", desc := "()I" } : Jvm.MethodName)) ∈ gw := gwT (tb7 (List.mem_of_getElem? (i := 141) rfl)) rfl
theorem wd_1582 : (Jvm.Cond.code ({ cls := "SinLensesModel", name := "partAt", desc := "()I" } : Jvm.MethodName) prog_13_method_53_code (3 : Nat) (Option.some Jvm.ClassFile.FieldType.int)) ∈ gw := gwT (tb7 (List.mem_of_getElem? (i := 142) rfl)) rfl
theorem wd_1583 : (Jvm.Cond.constantLong "SinLensesModel" (357 : Nat) (1000 : Int64)) ∈ gw := gwT (tb7 (List.mem_of_getElem? (i := 143) rfl)) rfl
theorem wd_1584 : (Jvm.Cond.methodLink "SinLensesModel" (359 : Nat) ({ cls := "SinLensesModel", name := "leaf", desc := "(ZII)V" } : Jvm.MethodName)) ∈ gw := gwT (tb7 (List.mem_of_getElem? (i := 144) rfl)) rfl
theorem wd_1586 : (Jvm.Cond.instanceMethod ({ cls := "SinLensesModel", name := "leaf", desc := "(ZII)V" } : Jvm.MethodName)) ∈ gw := gwT (tb7 (List.mem_of_getElem? (i := 146) rfl)) rfl
theorem wd_1587 : (Jvm.Cond.code ({ cls := "SinLensesModel", name := "leaf", desc := "(ZII)V" } : Jvm.MethodName) prog_13_method_56_code (4 : Nat) (Option.none : Option Jvm.ClassFile.FieldType)) ∈ gw := gwT (tb7 (List.mem_of_getElem? (i := 147) rfl)) rfl
theorem wd_1588 : (Jvm.Cond.methodLink "SinLensesModel" (317 : Nat) ({ cls := "SinLensesModel", name := "emit", desc := "(II)V" } : Jvm.MethodName)) ∈ gw := gwT (tb7 (List.mem_of_getElem? (i := 148) rfl)) rfl
theorem wd_1590 : (Jvm.Cond.instanceMethod ({ cls := "SinLensesModel", name := "emit", desc := "(II)V" } : Jvm.MethodName)) ∈ gw := gwT (tb7 (List.mem_of_getElem? (i := 150) rfl)) rfl
theorem wd_1591 : (Jvm.Cond.code ({ cls := "SinLensesModel", name := "emit", desc := "(II)V" } : Jvm.MethodName) prog_13_method_47_code (3 : Nat) (Option.none : Option Jvm.ClassFile.FieldType)) ∈ gw := gwT (tb7 (List.mem_of_getElem? (i := 151) rfl)) rfl
theorem wd_1592 : (Jvm.Cond.methodLink "SinLensesModel" (363 : Nat) ({ cls := "SinLensesModel", name := "number", desc := "(JJ)I" } : Jvm.MethodName)) ∈ gw := gwT (tb7 (List.mem_of_getElem? (i := 152) rfl)) rfl
theorem wd_1594 : (Jvm.Cond.instanceMethod ({ cls := "SinLensesModel", name := "number", desc := "(JJ)I" } : Jvm.MethodName)) ∈ gw := gwT (tb7 (List.mem_of_getElem? (i := 154) rfl)) rfl
theorem wd_1595 : (Jvm.Cond.code ({ cls := "SinLensesModel", name := "number", desc := "(JJ)I" } : Jvm.MethodName) prog_13_method_45_code (6 : Nat) (Option.some Jvm.ClassFile.FieldType.int)) ∈ gw := gwT (tb7 (List.mem_of_getElem? (i := 155) rfl)) rfl
theorem wd_1596 : (Jvm.Cond.methodLink "SinLensesModel" (389 : Nat) ({ cls := "SinLensesModel", name := "behindSum", desc := "(Z)I" } : Jvm.MethodName)) ∈ gw := gwT (tb7 (List.mem_of_getElem? (i := 156) rfl)) rfl
theorem wd_1598 : (Jvm.Cond.instanceMethod ({ cls := "SinLensesModel", name := "behindSum", desc := "(Z)I" } : Jvm.MethodName)) ∈ gw := gwT (tb7 (List.mem_of_getElem? (i := 158) rfl)) rfl
theorem wd_1599 : (Jvm.Cond.code ({ cls := "SinLensesModel", name := "behindSum", desc := "(Z)I" } : Jvm.MethodName) prog_13_method_59_code (4 : Nat) (Option.some Jvm.ClassFile.FieldType.int)) ∈ gw := gwT (tb7 (List.mem_of_getElem? (i := 159) rfl)) rfl
theorem wd_1600 : (Jvm.Cond.methodLink "SinLensesModel" (314 : Nat) ({ cls := "SinLensesModel", name := "binds", desc := "(I)I" } : Jvm.MethodName)) ∈ gw := gwT (tb7 (List.mem_of_getElem? (i := 160) rfl)) rfl
theorem wd_1601 : (Jvm.Cond.static ({ cls := "SinLensesModel", name := "binds", desc := "(I)I" } : Jvm.MethodName)) ∈ gw := gwT (tb7 (List.mem_of_getElem? (i := 161) rfl)) rfl
theorem wd_1602 : (Jvm.Cond.code ({ cls := "SinLensesModel", name := "binds", desc := "(I)I" } : Jvm.MethodName) prog_13_method_49_code (1 : Nat) (Option.some Jvm.ClassFile.FieldType.int)) ∈ gw := gwT (tb7 (List.mem_of_getElem? (i := 162) rfl)) rfl
theorem wd_1603 : (Jvm.Cond.methodLink "SinLensesModel" (372 : Nat) ({ cls := "SinLensesModel", name := "settle", desc := "(I)V" } : Jvm.MethodName)) ∈ gw := gwT (tb7 (List.mem_of_getElem? (i := 163) rfl)) rfl
theorem wd_1605 : (Jvm.Cond.instanceMethod ({ cls := "SinLensesModel", name := "settle", desc := "(I)V" } : Jvm.MethodName)) ∈ gw := gwT (tb7 (List.mem_of_getElem? (i := 165) rfl)) rfl
theorem wd_1606 : (Jvm.Cond.code ({ cls := "SinLensesModel", name := "settle", desc := "(I)V" } : Jvm.MethodName) prog_13_method_50_code (2 : Nat) (Option.none : Option Jvm.ClassFile.FieldType)) ∈ gw := gwT (tb7 (List.mem_of_getElem? (i := 166) rfl)) rfl
theorem wd_1607 : (Jvm.Cond.methodLink "SinLensesModel" (375 : Nat) ({ cls := "SinLensesModel", name := "inner", desc := "()I" } : Jvm.MethodName)) ∈ gw := gwT (tb7 (List.mem_of_getElem? (i := 167) rfl)) rfl
theorem wd_1609 : (Jvm.Cond.instanceMethod ({ cls := "SinLensesModel", name := "inner", desc := "()I" } : Jvm.MethodName)) ∈ gw := gwT (tb7 (List.mem_of_getElem? (i := 169) rfl)) rfl
theorem wd_1610 : (Jvm.Cond.code ({ cls := "SinLensesModel", name := "inner", desc := "()I" } : Jvm.MethodName) prog_13_method_51_code (3 : Nat) (Option.some Jvm.ClassFile.FieldType.int)) ∈ gw := gwT (tb7 (List.mem_of_getElem? (i := 170) rfl)) rfl
theorem wd_1611 : (Jvm.Cond.methodLink "SinLensesModel" (378 : Nat) ({ cls := "SinLensesModel", name := "isCompared", desc := "()Z" } : Jvm.MethodName)) ∈ gw := gwT (tb7 (List.mem_of_getElem? (i := 171) rfl)) rfl
theorem wd_1613 : (Jvm.Cond.instanceMethod ({ cls := "SinLensesModel", name := "isCompared", desc := "()Z" } : Jvm.MethodName)) ∈ gw := gwT (tb7 (List.mem_of_getElem? (i := 173) rfl)) rfl
theorem wd_1614 : (Jvm.Cond.code ({ cls := "SinLensesModel", name := "isCompared", desc := "()Z" } : Jvm.MethodName) prog_13_method_52_code (2 : Nat) (Option.some Jvm.ClassFile.FieldType.boolean)) ∈ gw := gwT (tb7 (List.mem_of_getElem? (i := 174) rfl)) rfl
theorem wd_1615 : (Jvm.Cond.constantLong "SinLensesModel" (320 : Nat) (20 : Int64)) ∈ gw := gwT (tb7 (List.mem_of_getElem? (i := 175) rfl)) rfl
theorem wd_1616 : (Jvm.Cond.constantLong "SinLensesModel" (322 : Nat) (24 : Int64)) ∈ gw := gwT (tb7 (List.mem_of_getElem? (i := 176) rfl)) rfl
theorem wd_1617 : (Jvm.Cond.constantLong "SinLensesModel" (324 : Nat) (25 : Int64)) ∈ gw := gwT (tb7 (List.mem_of_getElem? (i := 177) rfl)) rfl
theorem wd_1618 : (Jvm.Cond.constantLong "SinLensesModel" (326 : Nat) (27 : Int64)) ∈ gw := gwT (tb7 (List.mem_of_getElem? (i := 178) rfl)) rfl
theorem wd_1619 : (Jvm.Cond.methodLink "SinLensesModel" (393 : Nat) ({ cls := "SinLensesModel", name := "behindTest", desc := "()I" } : Jvm.MethodName)) ∈ gw := gwT (tb7 (List.mem_of_getElem? (i := 179) rfl)) rfl
theorem wd_1621 : (Jvm.Cond.instanceMethod ({ cls := "SinLensesModel", name := "behindTest", desc := "()I" } : Jvm.MethodName)) ∈ gw := gwT (tb7 (List.mem_of_getElem? (i := 181) rfl)) rfl
theorem wd_1622 : (Jvm.Cond.code ({ cls := "SinLensesModel", name := "behindTest", desc := "()I" } : Jvm.MethodName) prog_13_method_60_code (2 : Nat) (Option.some Jvm.ClassFile.FieldType.int)) ∈ gw := gwT (tb7 (List.mem_of_getElem? (i := 182) rfl)) rfl
theorem wd_1623 : (Jvm.Cond.constantLong "SinLensesModel" (382 : Nat) (1476 : Int64)) ∈ gw := gwT (tb7 (List.mem_of_getElem? (i := 183) rfl)) rfl
theorem wd_1624 : (Jvm.Cond.constantLong "SinLensesModel" (384 : Nat) (498 : Int64)) ∈ gw := gwT (tb7 (List.mem_of_getElem? (i := 184) rfl)) rfl
theorem wd_1625 : (Jvm.Cond.constantLong "SinLensesModel" (405 : Nat) (294 : Int64)) ∈ gw := gwT (tb7 (List.mem_of_getElem? (i := 185) rfl)) rfl
theorem wd_1626 : (Jvm.Cond.methodLink "SinLensesModel" (413 : Nat) ({ cls := "SinLensesModel", name := "endText", desc := "()V" } : Jvm.MethodName)) ∈ gw := gwT (tb7 (List.mem_of_getElem? (i := 186) rfl)) rfl
theorem wd_1628 : (Jvm.Cond.instanceMethod ({ cls := "SinLensesModel", name := "endText", desc := "()V" } : Jvm.MethodName)) ∈ gw := gwT (tb7 (List.mem_of_getElem? (i := 188) rfl)) rfl
theorem wd_1629 : (Jvm.Cond.code ({ cls := "SinLensesModel", name := "endText", desc := "()V" } : Jvm.MethodName) prog_13_method_63_code (1 : Nat) (Option.none : Option Jvm.ClassFile.FieldType)) ∈ gw := gwT (tb7 (List.mem_of_getElem? (i := 189) rfl)) rfl
theorem wd_1630 : (Jvm.Cond.methodLink "SinLensesLaw" (81 : Nat) ({ cls := "SinLensesModel", name := "force", desc := "(I)I" } : Jvm.MethodName)) ∈ gw := gwT (tb7 (List.mem_of_getElem? (i := 190) rfl)) rfl
theorem wd_1631 : (Jvm.Cond.instanceMethod ({ cls := "SinLensesModel", name := "force", desc := "(I)I" } : Jvm.MethodName)) ∈ gw := gwT (tb7 (List.mem_of_getElem? (i := 191) rfl)) rfl
theorem wd_1632 : (Jvm.Cond.selects "SinLensesModel" ({ cls := "SinLensesModel", name := "force", desc := "(I)I" } : Jvm.MethodName) ({ cls := "SinLensesModel", name := "force", desc := "(I)I" } : Jvm.MethodName)) ∈ gw := gwT (tb7 (List.mem_of_getElem? (i := 192) rfl)) rfl
theorem wd_1633 : (Jvm.Cond.code ({ cls := "SinLensesModel", name := "force", desc := "(I)I" } : Jvm.MethodName) prog_13_method_67_code (2 : Nat) (Option.some Jvm.ClassFile.FieldType.int)) ∈ gw := gwT (tb7 (List.mem_of_getElem? (i := 193) rfl)) rfl
theorem wd_1634 : (Jvm.Cond.methodLink "SinLensesModel" (416 : Nat) ({ cls := "SinLensesModel", name := "isLaw", desc := "(I)Z" } : Jvm.MethodName)) ∈ gw := gwT (tb7 (List.mem_of_getElem? (i := 194) rfl)) rfl
theorem wd_1636 : (Jvm.Cond.instanceMethod ({ cls := "SinLensesModel", name := "isLaw", desc := "(I)Z" } : Jvm.MethodName)) ∈ gw := gwT (tb7 (List.mem_of_getElem? (i := 196) rfl)) rfl
theorem wd_1637 : (Jvm.Cond.code ({ cls := "SinLensesModel", name := "isLaw", desc := "(I)Z" } : Jvm.MethodName) prog_13_method_66_code (2 : Nat) (Option.some Jvm.ClassFile.FieldType.boolean)) ∈ gw := gwT (tb7 (List.mem_of_getElem? (i := 197) rfl)) rfl
theorem wd_1638 : (Jvm.Cond.methodLink "SinLensesLaw" (85 : Nat) ({ cls := "SinLensesModel", name := "sin", desc := "(III)I" } : Jvm.MethodName)) ∈ gw := gwT (tb7 (List.mem_of_getElem? (i := 198) rfl)) rfl
theorem wd_1639 : (Jvm.Cond.instanceMethod ({ cls := "SinLensesModel", name := "sin", desc := "(III)I" } : Jvm.MethodName)) ∈ gw := gwT (tb7 (List.mem_of_getElem? (i := 199) rfl)) rfl
theorem wd_1640 : (Jvm.Cond.selects "SinLensesModel" ({ cls := "SinLensesModel", name := "sin", desc := "(III)I" } : Jvm.MethodName) ({ cls := "SinLensesModel", name := "sin", desc := "(III)I" } : Jvm.MethodName)) ∈ gw := gwT (tb7 (List.mem_of_getElem? (i := 200) rfl)) rfl
theorem wd_1641 : (Jvm.Cond.code ({ cls := "SinLensesModel", name := "sin", desc := "(III)I" } : Jvm.MethodName) prog_13_method_79_code (4 : Nat) (Option.some Jvm.ClassFile.FieldType.int)) ∈ gw := gwT (tb7 (List.mem_of_getElem? (i := 201) rfl)) rfl
theorem wd_1642 : (Jvm.Cond.methodLink "SinLensesModel" (467 : Nat) ({ cls := "SinLensesModel", name := "sinNow", desc := "(III)I" } : Jvm.MethodName)) ∈ gw := gwT (tb7 (List.mem_of_getElem? (i := 202) rfl)) rfl
theorem wd_1644 : (Jvm.Cond.instanceMethod ({ cls := "SinLensesModel", name := "sinNow", desc := "(III)I" } : Jvm.MethodName)) ∈ gw := gwT (tb7 (List.mem_of_getElem? (i := 204) rfl)) rfl
theorem wd_1645 : (Jvm.Cond.code ({ cls := "SinLensesModel", name := "sinNow", desc := "(III)I" } : Jvm.MethodName) prog_13_method_78_code (5 : Nat) (Option.some Jvm.ClassFile.FieldType.int)) ∈ gw := gwT (tb7 (List.mem_of_getElem? (i := 205) rfl)) rfl
theorem wd_1646 : (Jvm.Cond.constantLong "SinLensesModel" (462 : Nat) (-8 : Int64)) ∈ gw := gwT (tb7 (List.mem_of_getElem? (i := 206) rfl)) rfl
theorem wd_1647 : (Jvm.Cond.methodLink "SinLensesModel" (464 : Nat) ({ cls := "SinLensesModel", name := "remember", desc := "(I)V" } : Jvm.MethodName)) ∈ gw := gwT (tb7 (List.mem_of_getElem? (i := 207) rfl)) rfl
theorem wd_1649 : (Jvm.Cond.instanceMethod ({ cls := "SinLensesModel", name := "remember", desc := "(I)V" } : Jvm.MethodName)) ∈ gw := gwT (tb7 (List.mem_of_getElem? (i := 209) rfl)) rfl
theorem wd_1650 : (Jvm.Cond.code ({ cls := "SinLensesModel", name := "remember", desc := "(I)V" } : Jvm.MethodName) prog_13_method_11_code (3 : Nat) (Option.none : Option Jvm.ClassFile.FieldType)) ∈ gw := gwT (tb7 (List.mem_of_getElem? (i := 210) rfl)) rfl
theorem wd_1651 : (Jvm.Cond.methodLink "SinLensesModel" (178 : Nat) ({ cls := "SinLensesModel", name := "keepAll", desc := "(I)V" } : Jvm.MethodName)) ∈ gw := gwT (tb7 (List.mem_of_getElem? (i := 211) rfl)) rfl
theorem wd_1653 : (Jvm.Cond.instanceMethod ({ cls := "SinLensesModel", name := "keepAll", desc := "(I)V" } : Jvm.MethodName)) ∈ gw := gwT (tb7 (List.mem_of_getElem? (i := 213) rfl)) rfl
theorem wd_1654 : (Jvm.Cond.code ({ cls := "SinLensesModel", name := "keepAll", desc := "(I)V" } : Jvm.MethodName) prog_13_method_9_code (3 : Nat) (Option.none : Option Jvm.ClassFile.FieldType)) ∈ gw := gwT (tb7 (List.mem_of_getElem? (i := 214) rfl)) rfl
theorem wd_1655 : (Jvm.Cond.methodLink "SinLensesLaw" (89 : Nat) ({ cls := "SinLensesModel", name := "grind", desc := "(I)I" } : Jvm.MethodName)) ∈ gw := gwT (tb7 (List.mem_of_getElem? (i := 215) rfl)) rfl
theorem wd_1656 : (Jvm.Cond.instanceMethod ({ cls := "SinLensesModel", name := "grind", desc := "(I)I" } : Jvm.MethodName)) ∈ gw := gwT (tb7 (List.mem_of_getElem? (i := 216) rfl)) rfl
theorem wd_1657 : (Jvm.Cond.selects "SinLensesModel" ({ cls := "SinLensesModel", name := "grind", desc := "(I)I" } : Jvm.MethodName) ({ cls := "SinLensesModel", name := "grind", desc := "(I)I" } : Jvm.MethodName)) ∈ gw := gwT (tb7 (List.mem_of_getElem? (i := 217) rfl)) rfl
theorem wd_1658 : (Jvm.Cond.code ({ cls := "SinLensesModel", name := "grind", desc := "(I)I" } : Jvm.MethodName) prog_13_method_83_code (2 : Nat) (Option.some Jvm.ClassFile.FieldType.int)) ∈ gw := gwT (tb7 (List.mem_of_getElem? (i := 218) rfl)) rfl
theorem wd_1659 : (Jvm.Cond.methodLink "SinLensesModel" (477 : Nat) ({ cls := "SinLensesModel", name := "grindNow", desc := "(I)I" } : Jvm.MethodName)) ∈ gw := gwT (tb7 (List.mem_of_getElem? (i := 219) rfl)) rfl
theorem wd_1661 : (Jvm.Cond.instanceMethod ({ cls := "SinLensesModel", name := "grindNow", desc := "(I)I" } : Jvm.MethodName)) ∈ gw := gwT (tb7 (List.mem_of_getElem? (i := 221) rfl)) rfl
theorem wd_1662 : (Jvm.Cond.code ({ cls := "SinLensesModel", name := "grindNow", desc := "(I)I" } : Jvm.MethodName) prog_13_method_82_code (2 : Nat) (Option.some Jvm.ClassFile.FieldType.int)) ∈ gw := gwT (tb7 (List.mem_of_getElem? (i := 222) rfl)) rfl
theorem wd_1663 : (Jvm.Cond.methodLink "SinLensesModel" (474 : Nat) ({ cls := "SinLensesModel", name := "grindIt", desc := "(I)I" } : Jvm.MethodName)) ∈ gw := gwT (tb7 (List.mem_of_getElem? (i := 223) rfl)) rfl
theorem wd_1665 : (Jvm.Cond.instanceMethod ({ cls := "SinLensesModel", name := "grindIt", desc := "(I)I" } : Jvm.MethodName)) ∈ gw := gwT (tb7 (List.mem_of_getElem? (i := 225) rfl)) rfl
theorem wd_1666 : (Jvm.Cond.code ({ cls := "SinLensesModel", name := "grindIt", desc := "(I)I" } : Jvm.MethodName) prog_13_method_81_code (5 : Nat) (Option.some Jvm.ClassFile.FieldType.int)) ∈ gw := gwT (tb7 (List.mem_of_getElem? (i := 226) rfl)) rfl
theorem wd_1667 : (Jvm.Cond.methodLink "SinLensesModel" (471 : Nat) ({ cls := "SinLensesModel", name := "layGround", desc := "(I)I" } : Jvm.MethodName)) ∈ gw := gwT (tb7 (List.mem_of_getElem? (i := 227) rfl)) rfl
theorem wd_1669 : (Jvm.Cond.instanceMethod ({ cls := "SinLensesModel", name := "layGround", desc := "(I)I" } : Jvm.MethodName)) ∈ gw := gwT (tb7 (List.mem_of_getElem? (i := 229) rfl)) rfl
theorem wd_1670 : (Jvm.Cond.code ({ cls := "SinLensesModel", name := "layGround", desc := "(I)I" } : Jvm.MethodName) prog_13_method_80_code (4 : Nat) (Option.some Jvm.ClassFile.FieldType.int)) ∈ gw := gwT (tb7 (List.mem_of_getElem? (i := 230) rfl)) rfl
theorem wd_1671 : (Jvm.Cond.methodLink "SinLensesLaw" (93 : Nat) ({ cls := "SinLensesModel", name := "swap", desc := "(II)I" } : Jvm.MethodName)) ∈ gw := gwT (tb7 (List.mem_of_getElem? (i := 231) rfl)) rfl
theorem wd_1672 : (Jvm.Cond.instanceMethod ({ cls := "SinLensesModel", name := "swap", desc := "(II)I" } : Jvm.MethodName)) ∈ gw := gwT (tb7 (List.mem_of_getElem? (i := 232) rfl)) rfl
theorem wd_1673 : (Jvm.Cond.selects "SinLensesModel" ({ cls := "SinLensesModel", name := "swap", desc := "(II)I" } : Jvm.MethodName) ({ cls := "SinLensesModel", name := "swap", desc := "(II)I" } : Jvm.MethodName)) ∈ gw := gwT (tb7 (List.mem_of_getElem? (i := 233) rfl)) rfl
theorem wd_1674 : (Jvm.Cond.code ({ cls := "SinLensesModel", name := "swap", desc := "(II)I" } : Jvm.MethodName) prog_13_method_86_code (3 : Nat) (Option.some Jvm.ClassFile.FieldType.int)) ∈ gw := gwT (tb7 (List.mem_of_getElem? (i := 234) rfl)) rfl
theorem wd_1675 : (Jvm.Cond.methodLink "SinLensesModel" (483 : Nat) ({ cls := "SinLensesModel", name := "swapNow", desc := "(II)I" } : Jvm.MethodName)) ∈ gw := gwT (tb7 (List.mem_of_getElem? (i := 235) rfl)) rfl
theorem wd_1677 : (Jvm.Cond.instanceMethod ({ cls := "SinLensesModel", name := "swapNow", desc := "(II)I" } : Jvm.MethodName)) ∈ gw := gwT (tb7 (List.mem_of_getElem? (i := 237) rfl)) rfl
theorem wd_1678 : (Jvm.Cond.code ({ cls := "SinLensesModel", name := "swapNow", desc := "(II)I" } : Jvm.MethodName) prog_13_method_85_code (3 : Nat) (Option.some Jvm.ClassFile.FieldType.int)) ∈ gw := gwT (tb7 (List.mem_of_getElem? (i := 238) rfl)) rfl
theorem wd_1679 : (Jvm.Cond.methodLink "SinLensesModel" (480 : Nat) ({ cls := "SinLensesModel", name := "exchange", desc := "(II)V" } : Jvm.MethodName)) ∈ gw := gwT (tb7 (List.mem_of_getElem? (i := 239) rfl)) rfl
theorem wd_1681 : (Jvm.Cond.instanceMethod ({ cls := "SinLensesModel", name := "exchange", desc := "(II)V" } : Jvm.MethodName)) ∈ gw := gwT (tb8 (List.mem_of_getElem? (i := 1) rfl)) rfl
theorem wd_1682 : (Jvm.Cond.code ({ cls := "SinLensesModel", name := "exchange", desc := "(II)V" } : Jvm.MethodName) prog_13_method_84_code (5 : Nat) (Option.none : Option Jvm.ClassFile.FieldType)) ∈ gw := gwT (tb8 (List.mem_of_getElem? (i := 2) rfl)) rfl
theorem wd_1683 : (Jvm.Cond.methodLink "SinLensesLaw" (97 : Nat) ({ cls := "SinLensesModel", name := "cloth", desc := "(I)I" } : Jvm.MethodName)) ∈ gw := gwT (tb8 (List.mem_of_getElem? (i := 3) rfl)) rfl
theorem wd_1684 : (Jvm.Cond.instanceMethod ({ cls := "SinLensesModel", name := "cloth", desc := "(I)I" } : Jvm.MethodName)) ∈ gw := gwT (tb8 (List.mem_of_getElem? (i := 4) rfl)) rfl
theorem wd_1685 : (Jvm.Cond.selects "SinLensesModel" ({ cls := "SinLensesModel", name := "cloth", desc := "(I)I" } : Jvm.MethodName) ({ cls := "SinLensesModel", name := "cloth", desc := "(I)I" } : Jvm.MethodName)) ∈ gw := gwT (tb8 (List.mem_of_getElem? (i := 5) rfl)) rfl
theorem wd_1686 : (Jvm.Cond.code ({ cls := "SinLensesModel", name := "cloth", desc := "(I)I" } : Jvm.MethodName) prog_13_method_88_code (2 : Nat) (Option.some Jvm.ClassFile.FieldType.int)) ∈ gw := gwT (tb8 (List.mem_of_getElem? (i := 6) rfl)) rfl
theorem wd_1687 : (Jvm.Cond.methodLink "SinLensesModel" (486 : Nat) ({ cls := "SinLensesModel", name := "clothNow", desc := "(I)I" } : Jvm.MethodName)) ∈ gw := gwT (tb8 (List.mem_of_getElem? (i := 7) rfl)) rfl
theorem wd_1689 : (Jvm.Cond.instanceMethod ({ cls := "SinLensesModel", name := "clothNow", desc := "(I)I" } : Jvm.MethodName)) ∈ gw := gwT (tb8 (List.mem_of_getElem? (i := 9) rfl)) rfl
theorem wd_1690 : (Jvm.Cond.code ({ cls := "SinLensesModel", name := "clothNow", desc := "(I)I" } : Jvm.MethodName) prog_13_method_87_code (3 : Nat) (Option.some Jvm.ClassFile.FieldType.int)) ∈ gw := gwT (tb8 (List.mem_of_getElem? (i := 10) rfl)) rfl
theorem wd_1691 : (Jvm.Cond.methodLink "SinLensesLaw" (101 : Nat) ({ cls := "SinLensesModel", name := "pass", desc := "()I" } : Jvm.MethodName)) ∈ gw := gwT (tb8 (List.mem_of_getElem? (i := 11) rfl)) rfl
theorem wd_1692 : (Jvm.Cond.instanceMethod ({ cls := "SinLensesModel", name := "pass", desc := "()I" } : Jvm.MethodName)) ∈ gw := gwT (tb8 (List.mem_of_getElem? (i := 12) rfl)) rfl
theorem wd_1693 : (Jvm.Cond.selects "SinLensesModel" ({ cls := "SinLensesModel", name := "pass", desc := "()I" } : Jvm.MethodName) ({ cls := "SinLensesModel", name := "pass", desc := "()I" } : Jvm.MethodName)) ∈ gw := gwT (tb8 (List.mem_of_getElem? (i := 13) rfl)) rfl
theorem wd_1694 : (Jvm.Cond.code ({ cls := "SinLensesModel", name := "pass", desc := "()I" } : Jvm.MethodName) prog_13_method_91_code (1 : Nat) (Option.some Jvm.ClassFile.FieldType.int)) ∈ gw := gwT (tb8 (List.mem_of_getElem? (i := 14) rfl)) rfl
theorem wd_1695 : (Jvm.Cond.methodLink "SinLensesModel" (492 : Nat) ({ cls := "SinLensesModel", name := "passNow", desc := "()I" } : Jvm.MethodName)) ∈ gw := gwT (tb8 (List.mem_of_getElem? (i := 15) rfl)) rfl
theorem wd_1697 : (Jvm.Cond.instanceMethod ({ cls := "SinLensesModel", name := "passNow", desc := "()I" } : Jvm.MethodName)) ∈ gw := gwT (tb8 (List.mem_of_getElem? (i := 17) rfl)) rfl
theorem wd_1698 : (Jvm.Cond.code ({ cls := "SinLensesModel", name := "passNow", desc := "()I" } : Jvm.MethodName) prog_13_method_90_code (1 : Nat) (Option.some Jvm.ClassFile.FieldType.int)) ∈ gw := gwT (tb8 (List.mem_of_getElem? (i := 18) rfl)) rfl
theorem wd_1699 : (Jvm.Cond.methodLink "SinLensesModel" (489 : Nat) ({ cls := "SinLensesModel", name := "passIt", desc := "()V" } : Jvm.MethodName)) ∈ gw := gwT (tb8 (List.mem_of_getElem? (i := 19) rfl)) rfl
theorem wd_1701 : (Jvm.Cond.instanceMethod ({ cls := "SinLensesModel", name := "passIt", desc := "()V" } : Jvm.MethodName)) ∈ gw := gwT (tb8 (List.mem_of_getElem? (i := 21) rfl)) rfl
theorem wd_1702 : (Jvm.Cond.code ({ cls := "SinLensesModel", name := "passIt", desc := "()V" } : Jvm.MethodName) prog_13_method_89_code (2 : Nat) (Option.none : Option Jvm.ClassFile.FieldType)) ∈ gw := gwT (tb8 (List.mem_of_getElem? (i := 22) rfl)) rfl
theorem wd_1703 : (Jvm.Cond.methodLink "SinLensesLaw" (109 : Nat) ({ cls := "SinLensesModel", name := "cure", desc := "(II)I" } : Jvm.MethodName)) ∈ gw := gwT (tb8 (List.mem_of_getElem? (i := 23) rfl)) rfl
theorem wd_1704 : (Jvm.Cond.instanceMethod ({ cls := "SinLensesModel", name := "cure", desc := "(II)I" } : Jvm.MethodName)) ∈ gw := gwT (tb8 (List.mem_of_getElem? (i := 24) rfl)) rfl
theorem wd_1705 : (Jvm.Cond.selects "SinLensesModel" ({ cls := "SinLensesModel", name := "cure", desc := "(II)I" } : Jvm.MethodName) ({ cls := "SinLensesModel", name := "cure", desc := "(II)I" } : Jvm.MethodName)) ∈ gw := gwT (tb8 (List.mem_of_getElem? (i := 25) rfl)) rfl
theorem wd_1706 : (Jvm.Cond.code ({ cls := "SinLensesModel", name := "cure", desc := "(II)I" } : Jvm.MethodName) prog_13_method_94_code (6 : Nat) (Option.some Jvm.ClassFile.FieldType.int)) ∈ gw := gwT (tb8 (List.mem_of_getElem? (i := 26) rfl)) rfl
theorem wd_1707 : (Jvm.Cond.methodLink "SinLensesModel" (496 : Nat) ({ cls := "SinLensesModel", name := "layCures", desc := "()V" } : Jvm.MethodName)) ∈ gw := gwT (tb8 (List.mem_of_getElem? (i := 27) rfl)) rfl
theorem wd_1709 : (Jvm.Cond.instanceMethod ({ cls := "SinLensesModel", name := "layCures", desc := "()V" } : Jvm.MethodName)) ∈ gw := gwT (tb8 (List.mem_of_getElem? (i := 29) rfl)) rfl
theorem wd_1710 : (Jvm.Cond.code ({ cls := "SinLensesModel", name := "layCures", desc := "()V" } : Jvm.MethodName) prog_13_method_92_code (5 : Nat) (Option.none : Option Jvm.ClassFile.FieldType)) ∈ gw := gwT (tb8 (List.mem_of_getElem? (i := 30) rfl)) rfl
theorem wd_1711 : (Jvm.Cond.constant "SinLensesModel" (495 : Nat) (100000000 : Int32)) ∈ gw := gwT (tb8 (List.mem_of_getElem? (i := 31) rfl)) rfl
theorem wd_1712 : (Jvm.Cond.methodLink "SinLensesModel" (499 : Nat) ({ cls := "SinLensesModel", name := "nextLens", desc := "(I)I" } : Jvm.MethodName)) ∈ gw := gwT (tb8 (List.mem_of_getElem? (i := 32) rfl)) rfl
theorem wd_1714 : (Jvm.Cond.instanceMethod ({ cls := "SinLensesModel", name := "nextLens", desc := "(I)I" } : Jvm.MethodName)) ∈ gw := gwT (tb8 (List.mem_of_getElem? (i := 34) rfl)) rfl
theorem wd_1715 : (Jvm.Cond.code ({ cls := "SinLensesModel", name := "nextLens", desc := "(I)I" } : Jvm.MethodName) prog_13_method_93_code (3 : Nat) (Option.some Jvm.ClassFile.FieldType.int)) ∈ gw := gwT (tb8 (List.mem_of_getElem? (i := 35) rfl)) rfl
theorem wd_1716 : (Jvm.Cond.methodLink "SinLensesLaw" (113 : Nat) ({ cls := "SinLensesModel", name := "saw", desc := "(II)I" } : Jvm.MethodName)) ∈ gw := gwT (tb8 (List.mem_of_getElem? (i := 36) rfl)) rfl
theorem wd_1717 : (Jvm.Cond.instanceMethod ({ cls := "SinLensesModel", name := "saw", desc := "(II)I" } : Jvm.MethodName)) ∈ gw := gwT (tb8 (List.mem_of_getElem? (i := 37) rfl)) rfl
theorem wd_1718 : (Jvm.Cond.selects "SinLensesModel" ({ cls := "SinLensesModel", name := "saw", desc := "(II)I" } : Jvm.MethodName) ({ cls := "SinLensesModel", name := "saw", desc := "(II)I" } : Jvm.MethodName)) ∈ gw := gwT (tb8 (List.mem_of_getElem? (i := 38) rfl)) rfl
theorem wd_1719 : (Jvm.Cond.code ({ cls := "SinLensesModel", name := "saw", desc := "(II)I" } : Jvm.MethodName) prog_13_method_95_code (4 : Nat) (Option.some Jvm.ClassFile.FieldType.int)) ∈ gw := gwT (tb8 (List.mem_of_getElem? (i := 39) rfl)) rfl
theorem wd_1720 : (Jvm.Cond.methodLink "SinLensesLaw" (117 : Nat) ({ cls := "SinLensesModel", name := "forget", desc := "()I" } : Jvm.MethodName)) ∈ gw := gwT (tb8 (List.mem_of_getElem? (i := 40) rfl)) rfl
theorem wd_1721 : (Jvm.Cond.instanceMethod ({ cls := "SinLensesModel", name := "forget", desc := "()I" } : Jvm.MethodName)) ∈ gw := gwT (tb8 (List.mem_of_getElem? (i := 41) rfl)) rfl
theorem wd_1722 : (Jvm.Cond.selects "SinLensesModel" ({ cls := "SinLensesModel", name := "forget", desc := "()I" } : Jvm.MethodName) ({ cls := "SinLensesModel", name := "forget", desc := "()I" } : Jvm.MethodName)) ∈ gw := gwT (tb8 (List.mem_of_getElem? (i := 42) rfl)) rfl
theorem wd_1723 : (Jvm.Cond.code ({ cls := "SinLensesModel", name := "forget", desc := "()I" } : Jvm.MethodName) prog_13_method_96_code (2 : Nat) (Option.some Jvm.ClassFile.FieldType.int)) ∈ gw := gwT (tb8 (List.mem_of_getElem? (i := 43) rfl)) rfl
theorem wd_1724 : (Jvm.Cond.methodLink "SinLensesLaw" (121 : Nat) ({ cls := "SinLensesModel", name := "scenes", desc := "(I)I" } : Jvm.MethodName)) ∈ gw := gwT (tb8 (List.mem_of_getElem? (i := 44) rfl)) rfl
theorem wd_1725 : (Jvm.Cond.instanceMethod ({ cls := "SinLensesModel", name := "scenes", desc := "(I)I" } : Jvm.MethodName)) ∈ gw := gwT (tb8 (List.mem_of_getElem? (i := 45) rfl)) rfl
theorem wd_1726 : (Jvm.Cond.selects "SinLensesModel" ({ cls := "SinLensesModel", name := "scenes", desc := "(I)I" } : Jvm.MethodName) ({ cls := "SinLensesModel", name := "scenes", desc := "(I)I" } : Jvm.MethodName)) ∈ gw := gwT (tb8 (List.mem_of_getElem? (i := 46) rfl)) rfl
theorem wd_1727 : (Jvm.Cond.code ({ cls := "SinLensesModel", name := "scenes", desc := "(I)I" } : Jvm.MethodName) prog_13_method_98_code (5 : Nat) (Option.some Jvm.ClassFile.FieldType.int)) ∈ gw := gwT (tb8 (List.mem_of_getElem? (i := 47) rfl)) rfl
theorem wd_1728 : (Jvm.Cond.methodLink "SinLensesModel" (502 : Nat) ({ cls := "SinLensesModel", name := "allSee", desc := "(I)Z" } : Jvm.MethodName)) ∈ gw := gwT (tb8 (List.mem_of_getElem? (i := 48) rfl)) rfl
theorem wd_1730 : (Jvm.Cond.instanceMethod ({ cls := "SinLensesModel", name := "allSee", desc := "(I)Z" } : Jvm.MethodName)) ∈ gw := gwT (tb8 (List.mem_of_getElem? (i := 50) rfl)) rfl
theorem wd_1731 : (Jvm.Cond.code ({ cls := "SinLensesModel", name := "allSee", desc := "(I)Z" } : Jvm.MethodName) prog_13_method_97_code (4 : Nat) (Option.some Jvm.ClassFile.FieldType.boolean)) ∈ gw := gwT (tb8 (List.mem_of_getElem? (i := 51) rfl)) rfl
theorem wd_1732 : (Jvm.Cond.methodLink "SinLensesLaw" (125 : Nat) ({ cls := "SinLensesModel", name := "ask", desc := "(I)I" } : Jvm.MethodName)) ∈ gw := gwT (tb8 (List.mem_of_getElem? (i := 52) rfl)) rfl
theorem wd_1733 : (Jvm.Cond.instanceMethod ({ cls := "SinLensesModel", name := "ask", desc := "(I)I" } : Jvm.MethodName)) ∈ gw := gwT (tb8 (List.mem_of_getElem? (i := 53) rfl)) rfl
theorem wd_1734 : (Jvm.Cond.selects "SinLensesModel" ({ cls := "SinLensesModel", name := "ask", desc := "(I)I" } : Jvm.MethodName) ({ cls := "SinLensesModel", name := "ask", desc := "(I)I" } : Jvm.MethodName)) ∈ gw := gwT (tb8 (List.mem_of_getElem? (i := 54) rfl)) rfl
theorem wd_1735 : (Jvm.Cond.code ({ cls := "SinLensesModel", name := "ask", desc := "(I)I" } : Jvm.MethodName) prog_13_method_100_code (6 : Nat) (Option.some Jvm.ClassFile.FieldType.int)) ∈ gw := gwT (tb8 (List.mem_of_getElem? (i := 55) rfl)) rfl
theorem wd_1736 : (Jvm.Cond.methodLink "SinLensesModel" (505 : Nat) ({ cls := "SinLensesModel", name := "mostAlike", desc := "(I)I" } : Jvm.MethodName)) ∈ gw := gwT (tb8 (List.mem_of_getElem? (i := 56) rfl)) rfl
theorem wd_1738 : (Jvm.Cond.instanceMethod ({ cls := "SinLensesModel", name := "mostAlike", desc := "(I)I" } : Jvm.MethodName)) ∈ gw := gwT (tb8 (List.mem_of_getElem? (i := 58) rfl)) rfl
theorem wd_1739 : (Jvm.Cond.code ({ cls := "SinLensesModel", name := "mostAlike", desc := "(I)I" } : Jvm.MethodName) prog_13_method_99_code (5 : Nat) (Option.some Jvm.ClassFile.FieldType.int)) ∈ gw := gwT (tb8 (List.mem_of_getElem? (i := 59) rfl)) rfl
theorem wd_1740 : (Jvm.Cond.methodLink "SinLensesLaw" (129 : Nat) ({ cls := "SinLensesModel", name := "mixed", desc := "(I)I" } : Jvm.MethodName)) ∈ gw := gwT (tb8 (List.mem_of_getElem? (i := 60) rfl)) rfl
theorem wd_1741 : (Jvm.Cond.instanceMethod ({ cls := "SinLensesModel", name := "mixed", desc := "(I)I" } : Jvm.MethodName)) ∈ gw := gwT (tb8 (List.mem_of_getElem? (i := 61) rfl)) rfl
theorem wd_1742 : (Jvm.Cond.selects "SinLensesModel" ({ cls := "SinLensesModel", name := "mixed", desc := "(I)I" } : Jvm.MethodName) ({ cls := "SinLensesModel", name := "mixed", desc := "(I)I" } : Jvm.MethodName)) ∈ gw := gwT (tb8 (List.mem_of_getElem? (i := 62) rfl)) rfl
theorem wd_1743 : (Jvm.Cond.code ({ cls := "SinLensesModel", name := "mixed", desc := "(I)I" } : Jvm.MethodName) prog_13_method_101_code (7 : Nat) (Option.some Jvm.ClassFile.FieldType.int)) ∈ gw := gwT (tb8 (List.mem_of_getElem? (i := 63) rfl)) rfl
theorem wd_1744 : (Jvm.Cond.methodLink "SinLensesLaw" (133 : Nat) ({ cls := "SinLensesModel", name := "fitted", desc := "(I)I" } : Jvm.MethodName)) ∈ gw := gwT (tb8 (List.mem_of_getElem? (i := 64) rfl)) rfl
theorem wd_1745 : (Jvm.Cond.instanceMethod ({ cls := "SinLensesModel", name := "fitted", desc := "(I)I" } : Jvm.MethodName)) ∈ gw := gwT (tb8 (List.mem_of_getElem? (i := 65) rfl)) rfl
theorem wd_1746 : (Jvm.Cond.selects "SinLensesModel" ({ cls := "SinLensesModel", name := "fitted", desc := "(I)I" } : Jvm.MethodName) ({ cls := "SinLensesModel", name := "fitted", desc := "(I)I" } : Jvm.MethodName)) ∈ gw := gwT (tb8 (List.mem_of_getElem? (i := 66) rfl)) rfl
theorem wd_1747 : (Jvm.Cond.code ({ cls := "SinLensesModel", name := "fitted", desc := "(I)I" } : Jvm.MethodName) prog_13_method_105_code (3 : Nat) (Option.some Jvm.ClassFile.FieldType.int)) ∈ gw := gwT (tb8 (List.mem_of_getElem? (i := 67) rfl)) rfl
theorem wd_1748 : (Jvm.Cond.methodLink "SinLensesModel" (511 : Nat) ({ cls := "SinLensesModel", name := "layFitted", desc := "()V" } : Jvm.MethodName)) ∈ gw := gwT (tb8 (List.mem_of_getElem? (i := 68) rfl)) rfl
theorem wd_1750 : (Jvm.Cond.instanceMethod ({ cls := "SinLensesModel", name := "layFitted", desc := "()V" } : Jvm.MethodName)) ∈ gw := gwT (tb8 (List.mem_of_getElem? (i := 70) rfl)) rfl
theorem wd_1751 : (Jvm.Cond.code ({ cls := "SinLensesModel", name := "layFitted", desc := "()V" } : Jvm.MethodName) prog_13_method_102_code (3 : Nat) (Option.none : Option Jvm.ClassFile.FieldType)) ∈ gw := gwT (tb8 (List.mem_of_getElem? (i := 71) rfl)) rfl
theorem wd_1752 : (Jvm.Cond.methodLink "SinLensesModel" (514 : Nat) ({ cls := "SinLensesModel", name := "findFitted", desc := "()I" } : Jvm.MethodName)) ∈ gw := gwT (tb8 (List.mem_of_getElem? (i := 72) rfl)) rfl
theorem wd_1754 : (Jvm.Cond.instanceMethod ({ cls := "SinLensesModel", name := "findFitted", desc := "()I" } : Jvm.MethodName)) ∈ gw := gwT (tb8 (List.mem_of_getElem? (i := 74) rfl)) rfl
theorem wd_1755 : (Jvm.Cond.code ({ cls := "SinLensesModel", name := "findFitted", desc := "()I" } : Jvm.MethodName) prog_13_method_104_code (7 : Nat) (Option.some Jvm.ClassFile.FieldType.int)) ∈ gw := gwT (tb8 (List.mem_of_getElem? (i := 75) rfl)) rfl
theorem wd_1756 : (Jvm.Cond.methodLink "SinLensesModel" (508 : Nat) ({ cls := "SinLensesModel", name := "isNew", desc := "(I)Z" } : Jvm.MethodName)) ∈ gw := gwT (tb8 (List.mem_of_getElem? (i := 76) rfl)) rfl
theorem wd_1758 : (Jvm.Cond.instanceMethod ({ cls := "SinLensesModel", name := "isNew", desc := "(I)Z" } : Jvm.MethodName)) ∈ gw := gwT (tb8 (List.mem_of_getElem? (i := 78) rfl)) rfl
theorem wd_1759 : (Jvm.Cond.code ({ cls := "SinLensesModel", name := "isNew", desc := "(I)Z" } : Jvm.MethodName) prog_13_method_103_code (4 : Nat) (Option.some Jvm.ClassFile.FieldType.boolean)) ∈ gw := gwT (tb8 (List.mem_of_getElem? (i := 79) rfl)) rfl
theorem wd_1760 : (Jvm.Cond.methodLink "SinLensesLaw" (137 : Nat) ({ cls := "SinLensesModel", name := "come", desc := "(III)I" } : Jvm.MethodName)) ∈ gw := gwT (tb8 (List.mem_of_getElem? (i := 80) rfl)) rfl
theorem wd_1761 : (Jvm.Cond.instanceMethod ({ cls := "SinLensesModel", name := "come", desc := "(III)I" } : Jvm.MethodName)) ∈ gw := gwT (tb8 (List.mem_of_getElem? (i := 81) rfl)) rfl
theorem wd_1762 : (Jvm.Cond.selects "SinLensesModel" ({ cls := "SinLensesModel", name := "come", desc := "(III)I" } : Jvm.MethodName) ({ cls := "SinLensesModel", name := "come", desc := "(III)I" } : Jvm.MethodName)) ∈ gw := gwT (tb8 (List.mem_of_getElem? (i := 82) rfl)) rfl
theorem wd_1763 : (Jvm.Cond.code ({ cls := "SinLensesModel", name := "come", desc := "(III)I" } : Jvm.MethodName) prog_13_method_106_code (8 : Nat) (Option.some Jvm.ClassFile.FieldType.int)) ∈ gw := gwT (tb8 (List.mem_of_getElem? (i := 83) rfl)) rfl
theorem wd_1764 : (Jvm.Cond.methodLink "SinLensesLaw" (141 : Nat) ({ cls := "SinLensesModel", name := "idle", desc := "(II)I" } : Jvm.MethodName)) ∈ gw := gwT (tb8 (List.mem_of_getElem? (i := 84) rfl)) rfl
theorem wd_1765 : (Jvm.Cond.instanceMethod ({ cls := "SinLensesModel", name := "idle", desc := "(II)I" } : Jvm.MethodName)) ∈ gw := gwT (tb8 (List.mem_of_getElem? (i := 85) rfl)) rfl
theorem wd_1766 : (Jvm.Cond.selects "SinLensesModel" ({ cls := "SinLensesModel", name := "idle", desc := "(II)I" } : Jvm.MethodName) ({ cls := "SinLensesModel", name := "idle", desc := "(II)I" } : Jvm.MethodName)) ∈ gw := gwT (tb8 (List.mem_of_getElem? (i := 86) rfl)) rfl
theorem wd_1767 : (Jvm.Cond.code ({ cls := "SinLensesModel", name := "idle", desc := "(II)I" } : Jvm.MethodName) prog_13_method_108_code (11 : Nat) (Option.some Jvm.ClassFile.FieldType.int)) ∈ gw := gwT (tb8 (List.mem_of_getElem? (i := 87) rfl)) rfl
theorem wd_1768 : (Jvm.Cond.constantLong "SinLensesModel" (517 : Nat) (4 : Int64)) ∈ gw := gwT (tb8 (List.mem_of_getElem? (i := 88) rfl)) rfl
theorem wd_1769 : (Jvm.Cond.methodLink "SinLensesModel" (519 : Nat) ({ cls := "SinLensesModel", name := "isIdle", desc := "(II)Z" } : Jvm.MethodName)) ∈ gw := gwT (tb8 (List.mem_of_getElem? (i := 89) rfl)) rfl
theorem wd_1771 : (Jvm.Cond.instanceMethod ({ cls := "SinLensesModel", name := "isIdle", desc := "(II)Z" } : Jvm.MethodName)) ∈ gw := gwT (tb8 (List.mem_of_getElem? (i := 91) rfl)) rfl
theorem wd_1772 : (Jvm.Cond.code ({ cls := "SinLensesModel", name := "isIdle", desc := "(II)Z" } : Jvm.MethodName) prog_13_method_107_code (8 : Nat) (Option.some Jvm.ClassFile.FieldType.boolean)) ∈ gw := gwT (tb8 (List.mem_of_getElem? (i := 92) rfl)) rfl
theorem wd_1773 : (Jvm.Cond.methodLink "SinLensesLaw" (145 : Nat) ({ cls := "SinLensesModel", name := "alike", desc := "(I)I" } : Jvm.MethodName)) ∈ gw := gwT (tb8 (List.mem_of_getElem? (i := 93) rfl)) rfl
theorem wd_1774 : (Jvm.Cond.instanceMethod ({ cls := "SinLensesModel", name := "alike", desc := "(I)I" } : Jvm.MethodName)) ∈ gw := gwT (tb8 (List.mem_of_getElem? (i := 94) rfl)) rfl
theorem wd_1775 : (Jvm.Cond.selects "SinLensesModel" ({ cls := "SinLensesModel", name := "alike", desc := "(I)I" } : Jvm.MethodName) ({ cls := "SinLensesModel", name := "alike", desc := "(I)I" } : Jvm.MethodName)) ∈ gw := gwT (tb8 (List.mem_of_getElem? (i := 95) rfl)) rfl
theorem wd_1776 : (Jvm.Cond.code ({ cls := "SinLensesModel", name := "alike", desc := "(I)I" } : Jvm.MethodName) prog_13_method_109_code (4 : Nat) (Option.some Jvm.ClassFile.FieldType.int)) ∈ gw := gwT (tb8 (List.mem_of_getElem? (i := 96) rfl)) rfl
theorem wd_1777 : (Jvm.Cond.methodLink "SinLensesLaw" (149 : Nat) ({ cls := "SinLensesModel", name := "ground", desc := "(II)I" } : Jvm.MethodName)) ∈ gw := gwT (tb8 (List.mem_of_getElem? (i := 97) rfl)) rfl
theorem wd_1778 : (Jvm.Cond.instanceMethod ({ cls := "SinLensesModel", name := "ground", desc := "(II)I" } : Jvm.MethodName)) ∈ gw := gwT (tb8 (List.mem_of_getElem? (i := 98) rfl)) rfl
theorem wd_1779 : (Jvm.Cond.selects "SinLensesModel" ({ cls := "SinLensesModel", name := "ground", desc := "(II)I" } : Jvm.MethodName) ({ cls := "SinLensesModel", name := "ground", desc := "(II)I" } : Jvm.MethodName)) ∈ gw := gwT (tb8 (List.mem_of_getElem? (i := 99) rfl)) rfl
theorem wd_1780 : (Jvm.Cond.code ({ cls := "SinLensesModel", name := "ground", desc := "(II)I" } : Jvm.MethodName) prog_13_method_110_code (5 : Nat) (Option.some Jvm.ClassFile.FieldType.int)) ∈ gw := gwT (tb8 (List.mem_of_getElem? (i := 100) rfl)) rfl
theorem wd_1781 : (Jvm.Cond.methodLink "SinLensesLaw" (153 : Nat) ({ cls := "SinLensesModel", name := "mildest", desc := "(I)I" } : Jvm.MethodName)) ∈ gw := gwT (tb8 (List.mem_of_getElem? (i := 101) rfl)) rfl
theorem wd_1782 : (Jvm.Cond.instanceMethod ({ cls := "SinLensesModel", name := "mildest", desc := "(I)I" } : Jvm.MethodName)) ∈ gw := gwT (tb8 (List.mem_of_getElem? (i := 102) rfl)) rfl
theorem wd_1783 : (Jvm.Cond.selects "SinLensesModel" ({ cls := "SinLensesModel", name := "mildest", desc := "(I)I" } : Jvm.MethodName) ({ cls := "SinLensesModel", name := "mildest", desc := "(I)I" } : Jvm.MethodName)) ∈ gw := gwT (tb8 (List.mem_of_getElem? (i := 103) rfl)) rfl
theorem wd_1784 : (Jvm.Cond.code ({ cls := "SinLensesModel", name := "mildest", desc := "(I)I" } : Jvm.MethodName) prog_13_method_111_code (7 : Nat) (Option.some Jvm.ClassFile.FieldType.int)) ∈ gw := gwT (tb8 (List.mem_of_getElem? (i := 104) rfl)) rfl
theorem wd_1785 : (Jvm.Cond.methodLink "SinLensesLaw" (158 : Nat) ({ cls := "SinLensesModel", name := "weaker", desc := "(II)J" } : Jvm.MethodName)) ∈ gw := gwT (tb8 (List.mem_of_getElem? (i := 105) rfl)) rfl
theorem wd_1786 : (Jvm.Cond.instanceMethod ({ cls := "SinLensesModel", name := "weaker", desc := "(II)J" } : Jvm.MethodName)) ∈ gw := gwT (tb8 (List.mem_of_getElem? (i := 106) rfl)) rfl
theorem wd_1787 : (Jvm.Cond.selects "SinLensesModel" ({ cls := "SinLensesModel", name := "weaker", desc := "(II)J" } : Jvm.MethodName) ({ cls := "SinLensesModel", name := "weaker", desc := "(II)J" } : Jvm.MethodName)) ∈ gw := gwT (tb8 (List.mem_of_getElem? (i := 107) rfl)) rfl
theorem wd_1788 : (Jvm.Cond.code ({ cls := "SinLensesModel", name := "weaker", desc := "(II)J" } : Jvm.MethodName) prog_13_method_112_code (8 : Nat) (Option.some Jvm.ClassFile.FieldType.long)) ∈ gw := gwT (tb8 (List.mem_of_getElem? (i := 108) rfl)) rfl
theorem wd_1789 : (Jvm.Cond.constantLong "SinLensesModel" (522 : Nat) (60 : Int64)) ∈ gw := gwT (tb8 (List.mem_of_getElem? (i := 109) rfl)) rfl
theorem wd_1790 : (Jvm.Cond.constantLong "SinLensesModel" (524 : Nat) (1000000000000 : Int64)) ∈ gw := gwT (tb8 (List.mem_of_getElem? (i := 110) rfl)) rfl
theorem wd_1791 : (Jvm.Cond.methodLink "SinLensesLaw" (69 : Nat) ({ cls := "SinLensesModel", name := "orders", desc := "()I" } : Jvm.MethodName)) ∈ gw := gwT (tb8 (List.mem_of_getElem? (i := 111) rfl)) rfl
theorem wd_1792 : (Jvm.Cond.instanceMethod ({ cls := "SinLensesModel", name := "orders", desc := "()I" } : Jvm.MethodName)) ∈ gw := gwT (tb8 (List.mem_of_getElem? (i := 112) rfl)) rfl
theorem wd_1793 : (Jvm.Cond.selects "SinLensesModel" ({ cls := "SinLensesModel", name := "orders", desc := "()I" } : Jvm.MethodName) ({ cls := "SinLensesModel", name := "orders", desc := "()I" } : Jvm.MethodName)) ∈ gw := gwT (tb8 (List.mem_of_getElem? (i := 113) rfl)) rfl
theorem wd_1794 : (Jvm.Cond.code ({ cls := "SinLensesModel", name := "orders", desc := "()I" } : Jvm.MethodName) prog_13_method_118_code (4 : Nat) (Option.some Jvm.ClassFile.FieldType.int)) ∈ gw := gwT (tb8 (List.mem_of_getElem? (i := 114) rfl)) rfl
theorem wd_1795 : (Jvm.Cond.methodLink "SinLensesModel" (550 : Nat) ({ cls := "SinLensesModel", name := "readOrder", desc := "()V" } : Jvm.MethodName)) ∈ gw := gwT (tb8 (List.mem_of_getElem? (i := 115) rfl)) rfl
theorem wd_1797 : (Jvm.Cond.instanceMethod ({ cls := "SinLensesModel", name := "readOrder", desc := "()V" } : Jvm.MethodName)) ∈ gw := gwT (tb8 (List.mem_of_getElem? (i := 117) rfl)) rfl
theorem wd_1798 : (Jvm.Cond.code ({ cls := "SinLensesModel", name := "readOrder", desc := "()V" } : Jvm.MethodName) prog_13_method_114_code (4 : Nat) (Option.none : Option Jvm.ClassFile.FieldType)) ∈ gw := gwT (tb8 (List.mem_of_getElem? (i := 118) rfl)) rfl
theorem wd_1799 : (Jvm.Cond.methodLink "SinLensesModel" (526 : Nat) ({ cls := "SinLensesModel", name := "readSum", desc := "(I)V" } : Jvm.MethodName)) ∈ gw := gwT (tb8 (List.mem_of_getElem? (i := 119) rfl)) rfl
theorem wd_1801 : (Jvm.Cond.instanceMethod ({ cls := "SinLensesModel", name := "readSum", desc := "(I)V" } : Jvm.MethodName)) ∈ gw := gwT (tb8 (List.mem_of_getElem? (i := 121) rfl)) rfl
theorem wd_1802 : (Jvm.Cond.code ({ cls := "SinLensesModel", name := "readSum", desc := "(I)V" } : Jvm.MethodName) prog_13_method_113_code (2 : Nat) (Option.none : Option Jvm.ClassFile.FieldType)) ∈ gw := gwT (tb8 (List.mem_of_getElem? (i := 122) rfl)) rfl
theorem wd_1803 : (Jvm.Cond.constantLong "SinLensesModel" (529 : Nat) (486 : Int64)) ∈ gw := gwT (tb8 (List.mem_of_getElem? (i := 123) rfl)) rfl
theorem wd_1804 : (Jvm.Cond.constantLong "SinLensesModel" (531 : Nat) (763528 : Int64)) ∈ gw := gwT (tb8 (List.mem_of_getElem? (i := 124) rfl)) rfl
theorem wd_1805 : (Jvm.Cond.constantLong "SinLensesModel" (533 : Nat) (21279923 : Int64)) ∈ gw := gwT (tb8 (List.mem_of_getElem? (i := 125) rfl)) rfl
theorem wd_1806 : (Jvm.Cond.methodLink "SinLensesModel" (553 : Nat) ({ cls := "SinLensesModel", name := "run", desc := "(I)I" } : Jvm.MethodName)) ∈ gw := gwT (tb8 (List.mem_of_getElem? (i := 126) rfl)) rfl
theorem wd_1808 : (Jvm.Cond.instanceMethod ({ cls := "SinLensesModel", name := "run", desc := "(I)I" } : Jvm.MethodName)) ∈ gw := gwT (tb8 (List.mem_of_getElem? (i := 128) rfl)) rfl
theorem wd_1809 : (Jvm.Cond.code ({ cls := "SinLensesModel", name := "run", desc := "(I)I" } : Jvm.MethodName) prog_13_method_117_code (5 : Nat) (Option.some Jvm.ClassFile.FieldType.int)) ∈ gw := gwT (tb8 (List.mem_of_getElem? (i := 129) rfl)) rfl
theorem wd_1810 : (Jvm.Cond.methodLink "SinLensesModel" (544 : Nat) ({ cls := "SinLensesModel", name := "sumOf", desc := "(I)I" } : Jvm.MethodName)) ∈ gw := gwT (tb8 (List.mem_of_getElem? (i := 130) rfl)) rfl
theorem wd_1812 : (Jvm.Cond.instanceMethod ({ cls := "SinLensesModel", name := "sumOf", desc := "(I)I" } : Jvm.MethodName)) ∈ gw := gwT (tb8 (List.mem_of_getElem? (i := 132) rfl)) rfl
theorem wd_1813 : (Jvm.Cond.code ({ cls := "SinLensesModel", name := "sumOf", desc := "(I)I" } : Jvm.MethodName) prog_13_method_115_code (2 : Nat) (Option.some Jvm.ClassFile.FieldType.int)) ∈ gw := gwT (tb8 (List.mem_of_getElem? (i := 133) rfl)) rfl
theorem wd_1814 : (Jvm.Cond.methodLink "SinLensesModel" (547 : Nat) ({ cls := "SinLensesModel", name := "act", desc := "(III)I" } : Jvm.MethodName)) ∈ gw := gwT (tb8 (List.mem_of_getElem? (i := 134) rfl)) rfl
theorem wd_1816 : (Jvm.Cond.instanceMethod ({ cls := "SinLensesModel", name := "act", desc := "(III)I" } : Jvm.MethodName)) ∈ gw := gwT (tb8 (List.mem_of_getElem? (i := 136) rfl)) rfl
theorem wd_1817 : (Jvm.Cond.code ({ cls := "SinLensesModel", name := "act", desc := "(III)I" } : Jvm.MethodName) prog_13_method_116_code (4 : Nat) (Option.some Jvm.ClassFile.FieldType.int)) ∈ gw := gwT (tb8 (List.mem_of_getElem? (i := 137) rfl)) rfl
theorem wd_1818 : (Jvm.Cond.methodLink "SinLensesModel" (556 : Nat) ({ cls := "SinLensesModel", name := "giveBack", desc := "(I)V" } : Jvm.MethodName)) ∈ gw := gwT (tb8 (List.mem_of_getElem? (i := 138) rfl)) rfl
theorem wd_1820 : (Jvm.Cond.instanceMethod ({ cls := "SinLensesModel", name := "giveBack", desc := "(I)V" } : Jvm.MethodName)) ∈ gw := gwT (tb8 (List.mem_of_getElem? (i := 140) rfl)) rfl
theorem wd_1821 : (Jvm.Cond.code ({ cls := "SinLensesModel", name := "giveBack", desc := "(I)V" } : Jvm.MethodName) prog_13_method_119_code (3 : Nat) (Option.none : Option Jvm.ClassFile.FieldType)) ∈ gw := gwT (tb8 (List.mem_of_getElem? (i := 141) rfl)) rfl
theorem wd_1822 : (Jvm.Cond.methodLink "SinLensesLaw" (77 : Nat) ({ cls := "SinLensesModel", name := "stopped", desc := "()I" } : Jvm.MethodName)) ∈ gw := gwT (tb8 (List.mem_of_getElem? (i := 142) rfl)) rfl
theorem wd_1823 : (Jvm.Cond.instanceMethod ({ cls := "SinLensesModel", name := "stopped", desc := "()I" } : Jvm.MethodName)) ∈ gw := gwT (tb8 (List.mem_of_getElem? (i := 143) rfl)) rfl
theorem wd_1824 : (Jvm.Cond.selects "SinLensesModel" ({ cls := "SinLensesModel", name := "stopped", desc := "()I" } : Jvm.MethodName) ({ cls := "SinLensesModel", name := "stopped", desc := "()I" } : Jvm.MethodName)) ∈ gw := gwT (tb8 (List.mem_of_getElem? (i := 144) rfl)) rfl
theorem wd_1825 : (Jvm.Cond.code ({ cls := "SinLensesModel", name := "stopped", desc := "()I" } : Jvm.MethodName) prog_13_method_120_code (1 : Nat) (Option.some Jvm.ClassFile.FieldType.int)) ∈ gw := gwT (tb8 (List.mem_of_getElem? (i := 145) rfl)) rfl
theorem wd_1826 : (Jvm.Cond.methodLink "SinLensesLaw" (162 : Nat) ({ cls := "SinLensesModel", name := "months", desc := "(II)I" } : Jvm.MethodName)) ∈ gw := gwT (tb8 (List.mem_of_getElem? (i := 146) rfl)) rfl
theorem wd_1827 : (Jvm.Cond.instanceMethod ({ cls := "SinLensesModel", name := "months", desc := "(II)I" } : Jvm.MethodName)) ∈ gw := gwT (tb8 (List.mem_of_getElem? (i := 147) rfl)) rfl
theorem wd_1828 : (Jvm.Cond.selects "SinLensesModel" ({ cls := "SinLensesModel", name := "months", desc := "(II)I" } : Jvm.MethodName) ({ cls := "SinLensesModel", name := "months", desc := "(II)I" } : Jvm.MethodName)) ∈ gw := gwT (tb8 (List.mem_of_getElem? (i := 148) rfl)) rfl
theorem wd_1829 : (Jvm.Cond.code ({ cls := "SinLensesModel", name := "months", desc := "(II)I" } : Jvm.MethodName) prog_13_method_122_code (9 : Nat) (Option.some Jvm.ClassFile.FieldType.int)) ∈ gw := gwT (tb8 (List.mem_of_getElem? (i := 149) rfl)) rfl
theorem wd_1830 : (Jvm.Cond.methodLink "SinLensesModel" (568 : Nat) ({ cls := "SinLensesModel", name := "draw", desc := "(I)I" } : Jvm.MethodName)) ∈ gw := gwT (tb8 (List.mem_of_getElem? (i := 150) rfl)) rfl
theorem wd_1832 : (Jvm.Cond.instanceMethod ({ cls := "SinLensesModel", name := "draw", desc := "(I)I" } : Jvm.MethodName)) ∈ gw := gwT (tb8 (List.mem_of_getElem? (i := 152) rfl)) rfl
theorem wd_1833 : (Jvm.Cond.code ({ cls := "SinLensesModel", name := "draw", desc := "(I)I" } : Jvm.MethodName) prog_13_method_121_code (2 : Nat) (Option.some Jvm.ClassFile.FieldType.int)) ∈ gw := gwT (tb8 (List.mem_of_getElem? (i := 153) rfl)) rfl
theorem wd_1834 : (Jvm.Cond.constantLong "SinLensesModel" (562 : Nat) (1103 : Int64)) ∈ gw := gwT (tb8 (List.mem_of_getElem? (i := 154) rfl)) rfl
theorem wd_1835 : (Jvm.Cond.constantLong "SinLensesModel" (564 : Nat) (12345 : Int64)) ∈ gw := gwT (tb8 (List.mem_of_getElem? (i := 155) rfl)) rfl
theorem wd_1836 : (Jvm.Cond.constantLong "SinLensesModel" (566 : Nat) (1000003 : Int64)) ∈ gw := gwT (tb8 (List.mem_of_getElem? (i := 156) rfl)) rfl
theorem wd_1837 : (Jvm.Cond.methodLink "SinLensesLaw" (166 : Nat) ({ cls := "SinLensesModel", name := "drawn", desc := "(II)I" } : Jvm.MethodName)) ∈ gw := gwT (tb8 (List.mem_of_getElem? (i := 157) rfl)) rfl
theorem wd_1838 : (Jvm.Cond.instanceMethod ({ cls := "SinLensesModel", name := "drawn", desc := "(II)I" } : Jvm.MethodName)) ∈ gw := gwT (tb8 (List.mem_of_getElem? (i := 158) rfl)) rfl
theorem wd_1839 : (Jvm.Cond.selects "SinLensesModel" ({ cls := "SinLensesModel", name := "drawn", desc := "(II)I" } : Jvm.MethodName) ({ cls := "SinLensesModel", name := "drawn", desc := "(II)I" } : Jvm.MethodName)) ∈ gw := gwT (tb8 (List.mem_of_getElem? (i := 159) rfl)) rfl
theorem wd_1840 : (Jvm.Cond.code ({ cls := "SinLensesModel", name := "drawn", desc := "(II)I" } : Jvm.MethodName) prog_13_method_123_code (3 : Nat) (Option.some Jvm.ClassFile.FieldType.int)) ∈ gw := gwT (tb8 (List.mem_of_getElem? (i := 160) rfl)) rfl
theorem wd_1841 : (Jvm.Cond.methodLink "SinLensesLaw" (178 : Nat) ({ cls := "SinLensesModel", name := "count", desc := "(I)I" } : Jvm.MethodName)) ∈ gw := gwT (tb8 (List.mem_of_getElem? (i := 161) rfl)) rfl
theorem wd_1842 : (Jvm.Cond.instanceMethod ({ cls := "SinLensesModel", name := "count", desc := "(I)I" } : Jvm.MethodName)) ∈ gw := gwT (tb8 (List.mem_of_getElem? (i := 162) rfl)) rfl
theorem wd_1843 : (Jvm.Cond.selects "SinLensesModel" ({ cls := "SinLensesModel", name := "count", desc := "(I)I" } : Jvm.MethodName) ({ cls := "SinLensesModel", name := "count", desc := "(I)I" } : Jvm.MethodName)) ∈ gw := gwT (tb8 (List.mem_of_getElem? (i := 163) rfl)) rfl
theorem wd_1844 : (Jvm.Cond.code ({ cls := "SinLensesModel", name := "count", desc := "(I)I" } : Jvm.MethodName) prog_13_method_125_code (2 : Nat) (Option.some Jvm.ClassFile.FieldType.int)) ∈ gw := gwT (tb8 (List.mem_of_getElem? (i := 164) rfl)) rfl
theorem wd_1845 : (Jvm.Cond.methodLink "SinLensesModel" (571 : Nat) ({ cls := "SinLensesModel", name := "allSins", desc := "()I" } : Jvm.MethodName)) ∈ gw := gwT (tb8 (List.mem_of_getElem? (i := 165) rfl)) rfl
theorem wd_1847 : (Jvm.Cond.instanceMethod ({ cls := "SinLensesModel", name := "allSins", desc := "()I" } : Jvm.MethodName)) ∈ gw := gwT (tb8 (List.mem_of_getElem? (i := 167) rfl)) rfl
theorem wd_1848 : (Jvm.Cond.code ({ cls := "SinLensesModel", name := "allSins", desc := "()I" } : Jvm.MethodName) prog_13_method_124_code (3 : Nat) (Option.some Jvm.ClassFile.FieldType.int)) ∈ gw := gwT (tb8 (List.mem_of_getElem? (i := 168) rfl)) rfl
theorem wd_1849 : (Jvm.Cond.constantLong "SinLensesModel" (574 : Nat) (12 : Int64)) ∈ gw := gwT (tb8 (List.mem_of_getElem? (i := 169) rfl)) rfl
theorem wd_1850 : (Jvm.Cond.constantLong "SinLensesModel" (576 : Nat) (15 : Int64)) ∈ gw := gwT (tb8 (List.mem_of_getElem? (i := 170) rfl)) rfl
theorem wd_1851 : (Jvm.Cond.methodLink "SinLensesLaw" (182 : Nat) ({ cls := "SinLensesModel", name := "status", desc := "()I" } : Jvm.MethodName)) ∈ gw := gwT (tb8 (List.mem_of_getElem? (i := 171) rfl)) rfl
theorem wd_1852 : (Jvm.Cond.instanceMethod ({ cls := "SinLensesModel", name := "status", desc := "()I" } : Jvm.MethodName)) ∈ gw := gwT (tb8 (List.mem_of_getElem? (i := 172) rfl)) rfl
theorem wd_1853 : (Jvm.Cond.selects "SinLensesModel" ({ cls := "SinLensesModel", name := "status", desc := "()I" } : Jvm.MethodName) ({ cls := "SinLensesModel", name := "status", desc := "()I" } : Jvm.MethodName)) ∈ gw := gwT (tb8 (List.mem_of_getElem? (i := 173) rfl)) rfl
theorem wd_1854 : (Jvm.Cond.code ({ cls := "SinLensesModel", name := "status", desc := "()I" } : Jvm.MethodName) prog_13_method_126_code (1 : Nat) (Option.some Jvm.ClassFile.FieldType.int)) ∈ gw := gwT (tb8 (List.mem_of_getElem? (i := 174) rfl)) rfl
theorem wd_1855 : (Jvm.Cond.fieldLink "java/lang/String" (9 : Nat) "java/lang/String" "value" "[B") ∈ gw := gwT (tb8 (List.mem_of_getElem? (i := 175) rfl)) rfl
theorem wd_1856 : (Jvm.Cond.fieldLink "java/lang/String" (15 : Nat) "java/lang/String" "coder" "B") ∈ gw := gwT (tb8 (List.mem_of_getElem? (i := 176) rfl)) rfl
theorem wp_0 : (Jvm.Cond.selects "SinLenses" ({ cls := "SinLenses", name := "refuse", desc := "(I)I" } : Jvm.MethodName) ({ cls := "SinLenses", name := "refuse", desc := "(I)I" } : Jvm.MethodName)) ∈ gw := gwP (List.mem_of_getElem? (i := 0) rfl) rfl
theorem wp_1 : (Jvm.Cond.selects "SinLenses$Trail" ({ cls := "SinLenses$Trail", name := "empty", desc := "()V" } : Jvm.MethodName) ({ cls := "SinLenses$Trail", name := "empty", desc := "()V" } : Jvm.MethodName)) ∈ gw := gwP (List.mem_of_getElem? (i := 1) rfl) rfl
theorem wp_2 : (Jvm.Cond.selects "SinLenses$Parish" ({ cls := "SinLenses$Parish", name := "addPerson", desc := "()I" } : Jvm.MethodName) ({ cls := "SinLenses$Parish", name := "addPerson", desc := "()I" } : Jvm.MethodName)) ∈ gw := gwP (List.mem_of_getElem? (i := 2) rfl) rfl
theorem wp_3 : (Jvm.Cond.selects "SinLenses$Parish" ({ cls := "SinLenses$Parish", name := "setSin", desc := "(III)V" } : Jvm.MethodName) ({ cls := "SinLenses$Parish", name := "setSin", desc := "(III)V" } : Jvm.MethodName)) ∈ gw := gwP (List.mem_of_getElem? (i := 3) rfl) rfl
theorem wp_4 : (Jvm.Cond.selects "SinLenses$Parish" ({ cls := "SinLenses$Parish", name := "has", desc := "(I)Z" } : Jvm.MethodName) ({ cls := "SinLenses$Parish", name := "has", desc := "(I)Z" } : Jvm.MethodName)) ∈ gw := gwP (List.mem_of_getElem? (i := 4) rfl) rfl
theorem wp_5 : (Jvm.Cond.selects "SinLenses$Parish" ({ cls := "SinLenses$Parish", name := "setGlass", desc := "(II)V" } : Jvm.MethodName) ({ cls := "SinLenses$Parish", name := "setGlass", desc := "(II)V" } : Jvm.MethodName)) ∈ gw := gwP (List.mem_of_getElem? (i := 5) rfl) rfl
theorem wp_6 : (Jvm.Cond.selects "SinLenses$Parish" ({ cls := "SinLenses$Parish", name := "setWanted", desc := "(II)V" } : Jvm.MethodName) ({ cls := "SinLenses$Parish", name := "setWanted", desc := "(II)V" } : Jvm.MethodName)) ∈ gw := gwP (List.mem_of_getElem? (i := 6) rfl) rfl
theorem wp_7 : (Jvm.Cond.selects "SinLenses" ({ cls := "SinLenses", name := "accept", desc := "(I)I" } : Jvm.MethodName) ({ cls := "SinLenses", name := "accept", desc := "(I)I" } : Jvm.MethodName)) ∈ gw := gwP (List.mem_of_getElem? (i := 7) rfl) rfl
theorem wp_8 : (Jvm.Cond.selects "SinLenses$Parish" ({ cls := "SinLenses$Parish", name := "sinOf", desc := "(II)I" } : Jvm.MethodName) ({ cls := "SinLenses$Parish", name := "sinOf", desc := "(II)I" } : Jvm.MethodName)) ∈ gw := gwP (List.mem_of_getElem? (i := 8) rfl) rfl
theorem wp_9 : (Jvm.Cond.selects "SinLenses$Parish" ({ cls := "SinLenses$Parish", name := "glassOf", desc := "(I)I" } : Jvm.MethodName) ({ cls := "SinLenses$Parish", name := "glassOf", desc := "(I)I" } : Jvm.MethodName)) ∈ gw := gwP (List.mem_of_getElem? (i := 9) rfl) rfl
theorem wp_10 : (Jvm.Cond.selects "SinLenses$Parish" ({ cls := "SinLenses$Parish", name := "sightOf", desc := "(I)I" } : Jvm.MethodName) ({ cls := "SinLenses$Parish", name := "sightOf", desc := "(I)I" } : Jvm.MethodName)) ∈ gw := gwP (List.mem_of_getElem? (i := 10) rfl) rfl
theorem wp_11 : (Jvm.Cond.selects "SinLenses$Parish" ({ cls := "SinLenses$Parish", name := "termOf", desc := "(I)I" } : Jvm.MethodName) ({ cls := "SinLenses$Parish", name := "termOf", desc := "(I)I" } : Jvm.MethodName)) ∈ gw := gwP (List.mem_of_getElem? (i := 11) rfl) rfl
theorem wp_12 : (Jvm.Cond.selects "SinLenses$Judge" ({ cls := "SinLenses$Judge", name := "deed", desc := "(LSinLenses$Parish;II)I" } : Jvm.MethodName) ({ cls := "SinLenses$Judge", name := "deed", desc := "(LSinLenses$Parish;II)I" } : Jvm.MethodName)) ∈ gw := gwP (List.mem_of_getElem? (i := 12) rfl) rfl
theorem wp_13 : (Jvm.Cond.selects "SinLenses$Judge" ({ cls := "SinLenses$Judge", name := "aboutPerson", desc := "(LSinLenses$Parish;II)V" } : Jvm.MethodName) ({ cls := "SinLenses$Judge", name := "aboutPerson", desc := "(LSinLenses$Parish;II)V" } : Jvm.MethodName)) ∈ gw := gwP (List.mem_of_getElem? (i := 13) rfl) rfl
theorem wp_14 : (Jvm.Cond.selects "SinLenses$Parish" ({ cls := "SinLenses$Parish", name := "sinsOf", desc := "(I)I" } : Jvm.MethodName) ({ cls := "SinLenses$Parish", name := "sinsOf", desc := "(I)I" } : Jvm.MethodName)) ∈ gw := gwP (List.mem_of_getElem? (i := 14) rfl) rfl
theorem wp_15 : (Jvm.Cond.selects "SinLenses$Parish" ({ cls := "SinLenses$Parish", name := "lawInForce", desc := "()LSinLenses$Text;" } : Jvm.MethodName) ({ cls := "SinLenses$Parish", name := "lawInForce", desc := "()LSinLenses$Text;" } : Jvm.MethodName)) ∈ gw := gwP (List.mem_of_getElem? (i := 15) rfl) rfl
theorem wp_16 : (Jvm.Cond.selects "SinLenses$Parish" ({ cls := "SinLenses$Parish", name := "lawAt", desc := "(I)LSinLenses$Text;" } : Jvm.MethodName) ({ cls := "SinLenses$Parish", name := "lawAt", desc := "(I)LSinLenses$Text;" } : Jvm.MethodName)) ∈ gw := gwP (List.mem_of_getElem? (i := 16) rfl) rfl
theorem wp_17 : (Jvm.Cond.selects "SinLenses$Parish" ({ cls := "SinLenses$Parish", name := "hasLaw", desc := "(I)Z" } : Jvm.MethodName) ({ cls := "SinLenses$Parish", name := "hasLaw", desc := "(I)Z" } : Jvm.MethodName)) ∈ gw := gwP (List.mem_of_getElem? (i := 17) rfl) rfl
theorem wp_18 : (Jvm.Cond.selects "SinLenses$Judge" ({ cls := "SinLenses$Judge", name := "lastTold", desc := "(LSinLenses$Text;I)I" } : Jvm.MethodName) ({ cls := "SinLenses$Judge", name := "lastTold", desc := "(LSinLenses$Text;I)I" } : Jvm.MethodName)) ∈ gw := gwP (List.mem_of_getElem? (i := 18) rfl) rfl
theorem wp_19 : (Jvm.Cond.selects "SinLenses$Text" ({ cls := "SinLenses$Text", name := "verbOf", desc := "(I)I" } : Jvm.MethodName) ({ cls := "SinLenses$Text", name := "verbOf", desc := "(I)I" } : Jvm.MethodName)) ∈ gw := gwP (List.mem_of_getElem? (i := 19) rfl) rfl
theorem wp_20 : (Jvm.Cond.selects "SinLenses$Text" ({ cls := "SinLenses$Text", name := "markOf", desc := "(II)I" } : Jvm.MethodName) ({ cls := "SinLenses$Text", name := "markOf", desc := "(II)I" } : Jvm.MethodName)) ∈ gw := gwP (List.mem_of_getElem? (i := 20) rfl) rfl
theorem wp_21 : (Jvm.Cond.selects "SinLenses$Sums" ({ cls := "SinLenses$Sums", name := "worth", desc := "(LSinLenses$Text;II[I)I" } : Jvm.MethodName) ({ cls := "SinLenses$Sums", name := "worth", desc := "(LSinLenses$Text;II[I)I" } : Jvm.MethodName)) ∈ gw := gwP (List.mem_of_getElem? (i := 21) rfl) rfl
theorem wp_22 : (Jvm.Cond.selects "SinLenses$Parish" ({ cls := "SinLenses$Parish", name := "wantedOf", desc := "(I)I" } : Jvm.MethodName) ({ cls := "SinLenses$Parish", name := "wantedOf", desc := "(I)I" } : Jvm.MethodName)) ∈ gw := gwP (List.mem_of_getElem? (i := 22) rfl) rfl
theorem wp_23 : (Jvm.Cond.selects "SinLenses$Judge" ({ cls := "SinLenses$Judge", name := "bars", desc := "(LSinLenses$Parish;I)Z" } : Jvm.MethodName) ({ cls := "SinLenses$Judge", name := "bars", desc := "(LSinLenses$Parish;I)Z" } : Jvm.MethodName)) ∈ gw := gwP (List.mem_of_getElem? (i := 23) rfl) rfl
theorem wp_24 : (Jvm.Cond.selects "SinLenses$Judge" ({ cls := "SinLenses$Judge", name := "lensFor", desc := "(LSinLenses$Parish;LSinLenses$Text;II)I" } : Jvm.MethodName) ({ cls := "SinLenses$Judge", name := "lensFor", desc := "(LSinLenses$Parish;LSinLenses$Text;II)I" } : Jvm.MethodName)) ∈ gw := gwP (List.mem_of_getElem? (i := 24) rfl) rfl
theorem wp_25 : (Jvm.Cond.selects "SinLenses$Judge" ({ cls := "SinLenses$Judge", name := "aboutSin", desc := "(LSinLenses$Parish;II)V" } : Jvm.MethodName) ({ cls := "SinLenses$Judge", name := "aboutSin", desc := "(LSinLenses$Parish;II)V" } : Jvm.MethodName)) ∈ gw := gwP (List.mem_of_getElem? (i := 25) rfl) rfl
theorem wp_26 : (Jvm.Cond.selects "SinLenses$Judge" ({ cls := "SinLenses$Judge", name := "growth", desc := "(LSinLenses$Parish;II)I" } : Jvm.MethodName) ({ cls := "SinLenses$Judge", name := "growth", desc := "(LSinLenses$Parish;II)I" } : Jvm.MethodName)) ∈ gw := gwP (List.mem_of_getElem? (i := 26) rfl) rfl
theorem wp_27 : (Jvm.Cond.selects "SinLenses$Parish" ({ cls := "SinLenses$Parish", name := "setTerm", desc := "(II)V" } : Jvm.MethodName) ({ cls := "SinLenses$Parish", name := "setTerm", desc := "(II)V" } : Jvm.MethodName)) ∈ gw := gwP (List.mem_of_getElem? (i := 27) rfl) rfl
theorem wp_28 : (Jvm.Cond.selects "SinLenses$Reader" ({ cls := "SinLenses$Reader", name := "hasRoomFor", desc := "(I)Z" } : Jvm.MethodName) ({ cls := "SinLenses$Reader", name := "hasRoomFor", desc := "(I)Z" } : Jvm.MethodName)) ∈ gw := gwP (List.mem_of_getElem? (i := 28) rfl) rfl
theorem wp_29 : (Jvm.Cond.selects "SinLenses$Reader" ({ cls := "SinLenses$Reader", name := "addFour", desc := "(I)V" } : Jvm.MethodName) ({ cls := "SinLenses$Reader", name := "addFour", desc := "(I)V" } : Jvm.MethodName)) ∈ gw := gwP (List.mem_of_getElem? (i := 29) rfl) rfl
theorem wp_30 : (Jvm.Cond.selects "SinLenses$Reader" ({ cls := "SinLenses$Reader", name := "hasSinsAt", desc := "(I)Z" } : Jvm.MethodName) ({ cls := "SinLenses$Reader", name := "hasSinsAt", desc := "(I)Z" } : Jvm.MethodName)) ∈ gw := gwP (List.mem_of_getElem? (i := 30) rfl) rfl
theorem wp_31 : (Jvm.Cond.selects "SinLenses$Reader" ({ cls := "SinLenses$Reader", name := "byteAt", desc := "(I)I" } : Jvm.MethodName) ({ cls := "SinLenses$Reader", name := "byteAt", desc := "(I)I" } : Jvm.MethodName)) ∈ gw := gwP (List.mem_of_getElem? (i := 31) rfl) rfl
theorem wp_32 : (Jvm.Cond.selects "SinLenses" ({ cls := "SinLenses", name := "addSinner", desc := "(I)V" } : Jvm.MethodName) ({ cls := "SinLenses", name := "addSinner", desc := "(I)V" } : Jvm.MethodName)) ∈ gw := gwP (List.mem_of_getElem? (i := 32) rfl) rfl
theorem wp_33 : (Jvm.Cond.selects "SinLenses$Reader" ({ cls := "SinLenses$Reader", name := "reads", desc := "(Z)Z" } : Jvm.MethodName) ({ cls := "SinLenses$Reader", name := "reads", desc := "(Z)Z" } : Jvm.MethodName)) ∈ gw := gwP (List.mem_of_getElem? (i := 33) rfl) rfl
theorem wp_34 : (Jvm.Cond.selects "SinLenses$Text" ({ cls := "SinLenses$Text", name := "empty", desc := "()V" } : Jvm.MethodName) ({ cls := "SinLenses$Text", name := "empty", desc := "()V" } : Jvm.MethodName)) ∈ gw := gwP (List.mem_of_getElem? (i := 34) rfl) rfl
theorem wp_35 : (Jvm.Cond.selects "SinLenses$Reader" ({ cls := "SinLenses$Reader", name := "split", desc := "()V" } : Jvm.MethodName) ({ cls := "SinLenses$Reader", name := "split", desc := "()V" } : Jvm.MethodName)) ∈ gw := gwP (List.mem_of_getElem? (i := 35) rfl) rfl
theorem wp_36 : (Jvm.Cond.selects "SinLenses$Reader" ({ cls := "SinLenses$Reader", name := "startsToken", desc := "(I)Z" } : Jvm.MethodName) ({ cls := "SinLenses$Reader", name := "startsToken", desc := "(I)Z" } : Jvm.MethodName)) ∈ gw := gwP (List.mem_of_getElem? (i := 36) rfl) rfl
theorem wp_37 : (Jvm.Cond.selects "SinLenses$Reader" ({ cls := "SinLenses$Reader", name := "pastToken", desc := "(I)I" } : Jvm.MethodName) ({ cls := "SinLenses$Reader", name := "pastToken", desc := "(I)I" } : Jvm.MethodName)) ∈ gw := gwP (List.mem_of_getElem? (i := 37) rfl) rfl
theorem wp_38 : (Jvm.Cond.selects "SinLenses$Reader" ({ cls := "SinLenses$Reader", name := "nameOf", desc := "(II)I" } : Jvm.MethodName) ({ cls := "SinLenses$Reader", name := "nameOf", desc := "(II)I" } : Jvm.MethodName)) ∈ gw := gwP (List.mem_of_getElem? (i := 38) rfl) rfl
theorem wp_39 : (Jvm.Cond.selects "SinLenses$Reader" ({ cls := "SinLenses$Reader", name := "isSame", desc := "(III)Z" } : Jvm.MethodName) ({ cls := "SinLenses$Reader", name := "isSame", desc := "(III)Z" } : Jvm.MethodName)) ∈ gw := gwP (List.mem_of_getElem? (i := 39) rfl) rfl
theorem wp_40 : (Jvm.Cond.selects "SinLenses$Reader" ({ cls := "SinLenses$Reader", name := "numberOf", desc := "(II)I" } : Jvm.MethodName) ({ cls := "SinLenses$Reader", name := "numberOf", desc := "(II)I" } : Jvm.MethodName)) ∈ gw := gwP (List.mem_of_getElem? (i := 40) rfl) rfl
theorem wp_41 : (Jvm.Cond.selects "SinLenses$Reader" ({ cls := "SinLenses$Reader", name := "clause", desc := "()V" } : Jvm.MethodName) ({ cls := "SinLenses$Reader", name := "clause", desc := "()V" } : Jvm.MethodName)) ∈ gw := gwP (List.mem_of_getElem? (i := 41) rfl) rfl
theorem wp_42 : (Jvm.Cond.selects "SinLenses$Reader" ({ cls := "SinLenses$Reader", name := "here", desc := "()I" } : Jvm.MethodName) ({ cls := "SinLenses$Reader", name := "here", desc := "()I" } : Jvm.MethodName)) ∈ gw := gwP (List.mem_of_getElem? (i := 42) rfl) rfl
theorem wp_43 : (Jvm.Cond.selects "SinLenses$Reader" ({ cls := "SinLenses$Reader", name := "fail", desc := "()V" } : Jvm.MethodName) ({ cls := "SinLenses$Reader", name := "fail", desc := "()V" } : Jvm.MethodName)) ∈ gw := gwP (List.mem_of_getElem? (i := 43) rfl) rfl
theorem wp_44 : (Jvm.Cond.selects "SinLenses$Text" ({ cls := "SinLenses$Text", name := "open", desc := "(I)V" } : Jvm.MethodName) ({ cls := "SinLenses$Text", name := "open", desc := "(I)V" } : Jvm.MethodName)) ∈ gw := gwP (List.mem_of_getElem? (i := 44) rfl) rfl
theorem wp_45 : (Jvm.Cond.selects "SinLenses$Text" ({ cls := "SinLenses$Text", name := "mark", desc := "(I)V" } : Jvm.MethodName) ({ cls := "SinLenses$Text", name := "mark", desc := "(I)V" } : Jvm.MethodName)) ∈ gw := gwP (List.mem_of_getElem? (i := 45) rfl) rfl
theorem wp_46 : (Jvm.Cond.selects "SinLenses$Reader" ({ cls := "SinLenses$Reader", name := "sum", desc := "(I)V" } : Jvm.MethodName) ({ cls := "SinLenses$Reader", name := "sum", desc := "(I)V" } : Jvm.MethodName)) ∈ gw := gwP (List.mem_of_getElem? (i := 46) rfl) rfl
theorem wp_47 : (Jvm.Cond.selects "SinLenses$Reader" ({ cls := "SinLenses$Reader", name := "term", desc := "(I)V" } : Jvm.MethodName) ({ cls := "SinLenses$Reader", name := "term", desc := "(I)V" } : Jvm.MethodName)) ∈ gw := gwP (List.mem_of_getElem? (i := 47) rfl) rfl
theorem wp_48 : (Jvm.Cond.selects "SinLenses$Reader" ({ cls := "SinLenses$Reader", name := "part", desc := "(I)V" } : Jvm.MethodName) ({ cls := "SinLenses$Reader", name := "part", desc := "(I)V" } : Jvm.MethodName)) ∈ gw := gwP (List.mem_of_getElem? (i := 48) rfl) rfl
theorem wp_49 : (Jvm.Cond.selects "SinLenses$Reader" ({ cls := "SinLenses$Reader", name := "simplePart", desc := "()V" } : Jvm.MethodName) ({ cls := "SinLenses$Reader", name := "simplePart", desc := "()V" } : Jvm.MethodName)) ∈ gw := gwP (List.mem_of_getElem? (i := 49) rfl) rfl
theorem wp_50 : (Jvm.Cond.selects "SinLenses$Reader" ({ cls := "SinLenses$Reader", name := "numberHere", desc := "()I" } : Jvm.MethodName) ({ cls := "SinLenses$Reader", name := "numberHere", desc := "()I" } : Jvm.MethodName)) ∈ gw := gwP (List.mem_of_getElem? (i := 50) rfl) rfl
theorem wp_51 : (Jvm.Cond.selects "SinLenses$Text" ({ cls := "SinLenses$Text", name := "put", desc := "(II)I" } : Jvm.MethodName) ({ cls := "SinLenses$Text", name := "put", desc := "(II)I" } : Jvm.MethodName)) ∈ gw := gwP (List.mem_of_getElem? (i := 51) rfl) rfl
theorem wp_52 : (Jvm.Cond.selects "SinLenses$Reader" ({ cls := "SinLenses$Reader", name := "expect", desc := "(I)V" } : Jvm.MethodName) ({ cls := "SinLenses$Reader", name := "expect", desc := "(I)V" } : Jvm.MethodName)) ∈ gw := gwP (List.mem_of_getElem? (i := 52) rfl) rfl
theorem wp_53 : (Jvm.Cond.selects "SinLenses$Reader" ({ cls := "SinLenses$Reader", name := "restOfOrder", desc := "(I)V" } : Jvm.MethodName) ({ cls := "SinLenses$Reader", name := "restOfOrder", desc := "(I)V" } : Jvm.MethodName)) ∈ gw := gwP (List.mem_of_getElem? (i := 53) rfl) rfl
theorem wp_54 : (Jvm.Cond.selects "SinLenses$Text" ({ cls := "SinLenses$Text", name := "repeat", desc := "(I)V" } : Jvm.MethodName) ({ cls := "SinLenses$Text", name := "repeat", desc := "(I)V" } : Jvm.MethodName)) ∈ gw := gwP (List.mem_of_getElem? (i := 54) rfl) rfl
theorem wp_55 : (Jvm.Cond.selects "SinLenses$Reader" ({ cls := "SinLenses$Reader", name := "test", desc := "(I)V" } : Jvm.MethodName) ({ cls := "SinLenses$Reader", name := "test", desc := "(I)V" } : Jvm.MethodName)) ∈ gw := gwP (List.mem_of_getElem? (i := 55) rfl) rfl
theorem wp_56 : (Jvm.Cond.selects "SinLenses$Reader" ({ cls := "SinLenses$Reader", name := "both", desc := "(I)V" } : Jvm.MethodName) ({ cls := "SinLenses$Reader", name := "both", desc := "(I)V" } : Jvm.MethodName)) ∈ gw := gwP (List.mem_of_getElem? (i := 56) rfl) rfl
theorem wp_57 : (Jvm.Cond.selects "SinLenses$Reader" ({ cls := "SinLenses$Reader", name := "plain", desc := "(I)V" } : Jvm.MethodName) ({ cls := "SinLenses$Reader", name := "plain", desc := "(I)V" } : Jvm.MethodName)) ∈ gw := gwP (List.mem_of_getElem? (i := 57) rfl) rfl
theorem wp_58 : (Jvm.Cond.selects "SinLenses$Reader" ({ cls := "SinLenses$Reader", name := "comparison", desc := "(I)V" } : Jvm.MethodName) ({ cls := "SinLenses$Reader", name := "comparison", desc := "(I)V" } : Jvm.MethodName)) ∈ gw := gwP (List.mem_of_getElem? (i := 58) rfl) rfl
theorem wp_59 : (Jvm.Cond.selects "SinLenses$Text" ({ cls := "SinLenses$Text", name := "aim", desc := "(I)V" } : Jvm.MethodName) ({ cls := "SinLenses$Text", name := "aim", desc := "(I)V" } : Jvm.MethodName)) ∈ gw := gwP (List.mem_of_getElem? (i := 59) rfl) rfl
theorem wp_60 : (Jvm.Cond.selects "SinLenses$Text" ({ cls := "SinLenses$Text", name := "copy", desc := "()LSinLenses$Text;" } : Jvm.MethodName) ({ cls := "SinLenses$Text", name := "copy", desc := "()LSinLenses$Text;" } : Jvm.MethodName)) ∈ gw := gwP (List.mem_of_getElem? (i := 60) rfl) rfl
theorem wp_61 : (Jvm.Cond.selects "SinLenses$Parish" ({ cls := "SinLenses$Parish", name := "addLaw", desc := "(LSinLenses$Text;)I" } : Jvm.MethodName) ({ cls := "SinLenses$Parish", name := "addLaw", desc := "(LSinLenses$Text;)I" } : Jvm.MethodName)) ∈ gw := gwP (List.mem_of_getElem? (i := 61) rfl) rfl
theorem wp_62 : (Jvm.Cond.selects "SinLenses$Clerk" ({ cls := "SinLenses$Clerk", name := "begin", desc := "(LSinLenses$Parish;LSinLenses$Trail;)V" } : Jvm.MethodName) ({ cls := "SinLenses$Clerk", name := "begin", desc := "(LSinLenses$Parish;LSinLenses$Trail;)V" } : Jvm.MethodName)) ∈ gw := gwP (List.mem_of_getElem? (i := 62) rfl) rfl
theorem wp_63 : (Jvm.Cond.selects "SinLenses$Parish" ({ cls := "SinLenses$Parish", name := "copyFrom", desc := "(LSinLenses$Parish;)V" } : Jvm.MethodName) ({ cls := "SinLenses$Parish", name := "copyFrom", desc := "(LSinLenses$Parish;)V" } : Jvm.MethodName)) ∈ gw := gwP (List.mem_of_getElem? (i := 63) rfl) rfl
theorem wp_64 : (Jvm.Cond.selects "SinLenses$Trail" ({ cls := "SinLenses$Trail", name := "copyFrom", desc := "(LSinLenses$Trail;)V" } : Jvm.MethodName) ({ cls := "SinLenses$Trail", name := "copyFrom", desc := "(LSinLenses$Trail;)V" } : Jvm.MethodName)) ∈ gw := gwP (List.mem_of_getElem? (i := 64) rfl) rfl
theorem wp_65 : (Jvm.Cond.selects "SinLenses$Text" ({ cls := "SinLenses$Text", name := "repeatsOf", desc := "(I)I" } : Jvm.MethodName) ({ cls := "SinLenses$Text", name := "repeatsOf", desc := "(I)I" } : Jvm.MethodName)) ∈ gw := gwP (List.mem_of_getElem? (i := 65) rfl) rfl
theorem wp_66 : (Jvm.Cond.selects "SinLenses$Clerk" ({ cls := "SinLenses$Clerk", name := "runOnce", desc := "(LSinLenses$Text;ILSinLenses$Parish;LSinLenses$Trail;)Z" } : Jvm.MethodName) ({ cls := "SinLenses$Clerk", name := "runOnce", desc := "(LSinLenses$Text;ILSinLenses$Parish;LSinLenses$Trail;)Z" } : Jvm.MethodName)) ∈ gw := gwP (List.mem_of_getElem? (i := 66) rfl) rfl
theorem wp_67 : (Jvm.Cond.selects "SinLenses$Text" ({ cls := "SinLenses$Text", name := "usesOf", desc := "(I)I" } : Jvm.MethodName) ({ cls := "SinLenses$Text", name := "usesOf", desc := "(I)I" } : Jvm.MethodName)) ∈ gw := gwP (List.mem_of_getElem? (i := 67) rfl) rfl
theorem wp_68 : (Jvm.Cond.selects "SinLenses$Clerk" ({ cls := "SinLenses$Clerk", name := "learnWords", desc := "(ILSinLenses$Parish;)V" } : Jvm.MethodName) ({ cls := "SinLenses$Clerk", name := "learnWords", desc := "(ILSinLenses$Parish;)V" } : Jvm.MethodName)) ∈ gw := gwP (List.mem_of_getElem? (i := 68) rfl) rfl
theorem wp_69 : (Jvm.Cond.selects "SinLenses$Deeds" ({ cls := "SinLenses$Deeds", name := "act", desc := "(LSinLenses$Parish;LSinLenses$Trail;IIII)I" } : Jvm.MethodName) ({ cls := "SinLenses$Deeds", name := "act", desc := "(LSinLenses$Parish;LSinLenses$Trail;IIII)I" } : Jvm.MethodName)) ∈ gw := gwP (List.mem_of_getElem? (i := 69) rfl) rfl
theorem wp_70 : (Jvm.Cond.selects "SinLenses$Deeds" ({ cls := "SinLenses$Deeds", name := "refusalOf", desc := "(LSinLenses$Parish;IIII)I" } : Jvm.MethodName) ({ cls := "SinLenses$Deeds", name := "refusalOf", desc := "(LSinLenses$Parish;IIII)I" } : Jvm.MethodName)) ∈ gw := gwP (List.mem_of_getElem? (i := 70) rfl) rfl
theorem wp_71 : (Jvm.Cond.selects "SinLenses$Trail" ({ cls := "SinLenses$Trail", name := "remember", desc := "(LSinLenses$Parish;I)V" } : Jvm.MethodName) ({ cls := "SinLenses$Trail", name := "remember", desc := "(LSinLenses$Parish;I)V" } : Jvm.MethodName)) ∈ gw := gwP (List.mem_of_getElem? (i := 71) rfl) rfl
theorem wp_72 : (Jvm.Cond.selects "SinLenses$Judge" ({ cls := "SinLenses$Judge", name := "glassBy", desc := "(LSinLenses$Parish;LSinLenses$Text;I)I" } : Jvm.MethodName) ({ cls := "SinLenses$Judge", name := "glassBy", desc := "(LSinLenses$Parish;LSinLenses$Text;I)I" } : Jvm.MethodName)) ∈ gw := gwP (List.mem_of_getElem? (i := 72) rfl) rfl
theorem wp_73 : (Jvm.Cond.selects "SinLenses$Deeds" ({ cls := "SinLenses$Deeds", name := "nextDay", desc := "(LSinLenses$Parish;)I" } : Jvm.MethodName) ({ cls := "SinLenses$Deeds", name := "nextDay", desc := "(LSinLenses$Parish;)I" } : Jvm.MethodName)) ∈ gw := gwP (List.mem_of_getElem? (i := 73) rfl) rfl
theorem wp_74 : (Jvm.Cond.selects "SinLenses$Clerk" ({ cls := "SinLenses$Clerk", name := "takeBack", desc := "(LSinLenses$Parish;LSinLenses$Trail;)V" } : Jvm.MethodName) ({ cls := "SinLenses$Clerk", name := "takeBack", desc := "(LSinLenses$Parish;LSinLenses$Trail;)V" } : Jvm.MethodName)) ∈ gw := gwP (List.mem_of_getElem? (i := 74) rfl) rfl
theorem wp_75 : (Jvm.Cond.selects "SinLenses" ({ cls := "SinLenses", name := "judged", desc := "(I)I" } : Jvm.MethodName) ({ cls := "SinLenses", name := "judged", desc := "(I)I" } : Jvm.MethodName)) ∈ gw := gwP (List.mem_of_getElem? (i := 75) rfl) rfl
theorem wp_76 : (Jvm.Cond.selects "SinLenses$Trail" ({ cls := "SinLenses$Trail", name := "goBack", desc := "(LSinLenses$Parish;)I" } : Jvm.MethodName) ({ cls := "SinLenses$Trail", name := "goBack", desc := "(LSinLenses$Parish;)I" } : Jvm.MethodName)) ∈ gw := gwP (List.mem_of_getElem? (i := 76) rfl) rfl
theorem wp_77 : (Jvm.Cond.selects "SinLenses$Paper" ({ cls := "SinLenses$Paper", name := "cureOf", desc := "(LSinLenses$Parish;II)I" } : Jvm.MethodName) ({ cls := "SinLenses$Paper", name := "cureOf", desc := "(LSinLenses$Parish;II)I" } : Jvm.MethodName)) ∈ gw := gwP (List.mem_of_getElem? (i := 77) rfl) rfl
theorem wp_78 : (Jvm.Cond.selects "SinLenses$Paper" ({ cls := "SinLenses$Paper", name := "spread", desc := "(I)V" } : Jvm.MethodName) ({ cls := "SinLenses$Paper", name := "spread", desc := "(I)V" } : Jvm.MethodName)) ∈ gw := gwP (List.mem_of_getElem? (i := 78) rfl) rfl
theorem wp_79 : (Jvm.Cond.selects "SinLenses$Paper" ({ cls := "SinLenses$Paper", name := "lensOnTheWay", desc := "(II)I" } : Jvm.MethodName) ({ cls := "SinLenses$Paper", name := "lensOnTheWay", desc := "(II)I" } : Jvm.MethodName)) ∈ gw := gwP (List.mem_of_getElem? (i := 79) rfl) rfl
theorem wp_80 : (Jvm.Cond.selects "SinLenses$Parish" ({ cls := "SinLenses$Parish", name := "addSeen", desc := "(II)I" } : Jvm.MethodName) ({ cls := "SinLenses$Parish", name := "addSeen", desc := "(II)I" } : Jvm.MethodName)) ∈ gw := gwP (List.mem_of_getElem? (i := 80) rfl) rfl
theorem wp_81 : (Jvm.Cond.selects "SinLenses$Paper" ({ cls := "SinLenses$Paper", name := "sceneAt", desc := "(LSinLenses$Parish;I)I" } : Jvm.MethodName) ({ cls := "SinLenses$Paper", name := "sceneAt", desc := "(LSinLenses$Parish;I)I" } : Jvm.MethodName)) ∈ gw := gwP (List.mem_of_getElem? (i := 81) rfl) rfl
theorem wp_82 : (Jvm.Cond.selects "SinLenses$Paper" ({ cls := "SinLenses$Paper", name := "findScenes", desc := "(LSinLenses$Parish;)I" } : Jvm.MethodName) ({ cls := "SinLenses$Paper", name := "findScenes", desc := "(LSinLenses$Parish;)I" } : Jvm.MethodName)) ∈ gw := gwP (List.mem_of_getElem? (i := 82) rfl) rfl
theorem wp_83 : (Jvm.Cond.selects "SinLenses$Paper" ({ cls := "SinLenses$Paper", name := "toAsk", desc := "(LSinLenses$Parish;Z)I" } : Jvm.MethodName) ({ cls := "SinLenses$Paper", name := "toAsk", desc := "(LSinLenses$Parish;Z)I" } : Jvm.MethodName)) ∈ gw := gwP (List.mem_of_getElem? (i := 83) rfl) rfl
theorem wp_84 : (Jvm.Cond.selects "SinLenses$Paper" ({ cls := "SinLenses$Paper", name := "mostAlike", desc := "(II)I" } : Jvm.MethodName) ({ cls := "SinLenses$Paper", name := "mostAlike", desc := "(II)I" } : Jvm.MethodName)) ∈ gw := gwP (List.mem_of_getElem? (i := 84) rfl) rfl
theorem wp_85 : (Jvm.Cond.selects "SinLenses$Paper" ({ cls := "SinLenses$Paper", name := "mixedAt", desc := "(LSinLenses$Parish;I)I" } : Jvm.MethodName) ({ cls := "SinLenses$Paper", name := "mixedAt", desc := "(LSinLenses$Parish;I)I" } : Jvm.MethodName)) ∈ gw := gwP (List.mem_of_getElem? (i := 85) rfl) rfl
theorem wp_86 : (Jvm.Cond.selects "SinLenses$Paper" ({ cls := "SinLenses$Paper", name := "fit", desc := "(LSinLenses$Parish;I)I" } : Jvm.MethodName) ({ cls := "SinLenses$Paper", name := "fit", desc := "(LSinLenses$Parish;I)I" } : Jvm.MethodName)) ∈ gw := gwP (List.mem_of_getElem? (i := 86) rfl) rfl
theorem wp_87 : (Jvm.Cond.selects "SinLenses$Paper" ({ cls := "SinLenses$Paper", name := "learnFits", desc := "(LSinLenses$Parish;I)V" } : Jvm.MethodName) ({ cls := "SinLenses$Paper", name := "learnFits", desc := "(LSinLenses$Parish;I)V" } : Jvm.MethodName)) ∈ gw := gwP (List.mem_of_getElem? (i := 87) rfl) rfl
theorem wp_88 : (Jvm.Cond.selects "SinLenses$Paper" ({ cls := "SinLenses$Paper", name := "learnBest", desc := "(I)V" } : Jvm.MethodName) ({ cls := "SinLenses$Paper", name := "learnBest", desc := "(I)V" } : Jvm.MethodName)) ∈ gw := gwP (List.mem_of_getElem? (i := 88) rfl) rfl
theorem wp_89 : (Jvm.Cond.selects "SinLenses$Paper" ({ cls := "SinLenses$Paper", name := "bestWith", desc := "(III)I" } : Jvm.MethodName) ({ cls := "SinLenses$Paper", name := "bestWith", desc := "(III)I" } : Jvm.MethodName)) ∈ gw := gwP (List.mem_of_getElem? (i := 89) rfl) rfl
theorem wp_90 : (Jvm.Cond.selects "SinLenses$Paper" ({ cls := "SinLenses$Paper", name := "firstBest", desc := "(III)I" } : Jvm.MethodName) ({ cls := "SinLenses$Paper", name := "firstBest", desc := "(III)I" } : Jvm.MethodName)) ∈ gw := gwP (List.mem_of_getElem? (i := 90) rfl) rfl
theorem wp_91 : (Jvm.Cond.selects "SinLenses$Paper" ({ cls := "SinLenses$Paper", name := "sinsBehind", desc := "(LSinLenses$Parish;III)I" } : Jvm.MethodName) ({ cls := "SinLenses$Paper", name := "sinsBehind", desc := "(LSinLenses$Parish;III)I" } : Jvm.MethodName)) ∈ gw := gwP (List.mem_of_getElem? (i := 91) rfl) rfl
theorem wp_92 : (Jvm.Cond.selects "SinLenses$Paper" ({ cls := "SinLenses$Paper", name := "idleAt", desc := "(II)I" } : Jvm.MethodName) ({ cls := "SinLenses$Paper", name := "idleAt", desc := "(II)I" } : Jvm.MethodName)) ∈ gw := gwP (List.mem_of_getElem? (i := 92) rfl) rfl
theorem wp_93 : (Jvm.Cond.selects "SinLenses$Paper" ({ cls := "SinLenses$Paper", name := "findIdle", desc := "(I)V" } : Jvm.MethodName) ({ cls := "SinLenses$Paper", name := "findIdle", desc := "(I)V" } : Jvm.MethodName)) ∈ gw := gwP (List.mem_of_getElem? (i := 93) rfl) rfl
theorem wp_94 : (Jvm.Cond.selects "SinLenses$Paper" ({ cls := "SinLenses$Paper", name := "mildestFor", desc := "(LSinLenses$Parish;I)I" } : Jvm.MethodName) ({ cls := "SinLenses$Paper", name := "mildestFor", desc := "(LSinLenses$Parish;I)I" } : Jvm.MethodName)) ∈ gw := gwP (List.mem_of_getElem? (i := 94) rfl) rfl
theorem wp_95 : (Jvm.Cond.selects "SinLenses$Paper" ({ cls := "SinLenses$Paper", name := "suits", desc := "(LSinLenses$Parish;II)Z" } : Jvm.MethodName) ({ cls := "SinLenses$Paper", name := "suits", desc := "(LSinLenses$Parish;II)Z" } : Jvm.MethodName)) ∈ gw := gwP (List.mem_of_getElem? (i := 95) rfl) rfl
theorem wp_96 : (Jvm.Cond.selects "SinLenses$Paper" ({ cls := "SinLenses$Paper", name := "chance", desc := "(III)J" } : Jvm.MethodName) ({ cls := "SinLenses$Paper", name := "chance", desc := "(III)J" } : Jvm.MethodName)) ∈ gw := gwP (List.mem_of_getElem? (i := 96) rfl) rfl
theorem wp_97 : (Jvm.Cond.selects "SinLenses$Deeds" ({ cls := "SinLenses$Deeds", name := "drawDays", desc := "(LSinLenses$Parish;II)I" } : Jvm.MethodName) ({ cls := "SinLenses$Deeds", name := "drawDays", desc := "(LSinLenses$Parish;II)I" } : Jvm.MethodName)) ∈ gw := gwP (List.mem_of_getElem? (i := 97) rfl) rfl
theorem wp_98 : (Jvm.Cond.selects "SinLenses$Parish" ({ cls := "SinLenses$Parish", name := "allSins", desc := "()I" } : Jvm.MethodName) ({ cls := "SinLenses$Parish", name := "allSins", desc := "()I" } : Jvm.MethodName)) ∈ gw := gwP (List.mem_of_getElem? (i := 98) rfl) rfl
theorem wp_99 : (Jvm.Cond.selects "SinLensesModel" ({ cls := "SinLensesModel", name := "tell", desc := "(I)I" } : Jvm.MethodName) ({ cls := "SinLensesModel", name := "tell", desc := "(I)I" } : Jvm.MethodName)) ∈ gw := gwP (List.mem_of_getElem? (i := 99) rfl) rfl
theorem wp_100 : (Jvm.Cond.selects "SinLensesModel" ({ cls := "SinLensesModel", name := "putBack", desc := "(I)V" } : Jvm.MethodName) ({ cls := "SinLensesModel", name := "putBack", desc := "(I)V" } : Jvm.MethodName)) ∈ gw := gwP (List.mem_of_getElem? (i := 100) rfl) rfl
theorem wp_101 : (Jvm.Cond.selects "SinLensesModel" ({ cls := "SinLensesModel", name := "settled", desc := "(I)I" } : Jvm.MethodName) ({ cls := "SinLensesModel", name := "settled", desc := "(I)I" } : Jvm.MethodName)) ∈ gw := gwP (List.mem_of_getElem? (i := 101) rfl) rfl
theorem wp_102 : (Jvm.Cond.selects "SinLensesModel" ({ cls := "SinLensesModel", name := "come1", desc := "(IIII)I" } : Jvm.MethodName) ({ cls := "SinLensesModel", name := "come1", desc := "(IIII)I" } : Jvm.MethodName)) ∈ gw := gwP (List.mem_of_getElem? (i := 102) rfl) rfl
theorem wp_103 : (Jvm.Cond.selects "SinLensesModel" ({ cls := "SinLensesModel", name := "isPerson", desc := "(I)Z" } : Jvm.MethodName) ({ cls := "SinLensesModel", name := "isPerson", desc := "(I)Z" } : Jvm.MethodName)) ∈ gw := gwP (List.mem_of_getElem? (i := 103) rfl) rfl
theorem wp_104 : (Jvm.Cond.selects "SinLensesModel" ({ cls := "SinLensesModel", name := "lensesOf", desc := "(I)I" } : Jvm.MethodName) ({ cls := "SinLensesModel", name := "lensesOf", desc := "(I)I" } : Jvm.MethodName)) ∈ gw := gwP (List.mem_of_getElem? (i := 104) rfl) rfl
theorem wp_105 : (Jvm.Cond.selects "SinLensesModel" ({ cls := "SinLensesModel", name := "sightOf", desc := "(I)I" } : Jvm.MethodName) ({ cls := "SinLensesModel", name := "sightOf", desc := "(I)I" } : Jvm.MethodName)) ∈ gw := gwP (List.mem_of_getElem? (i := 105) rfl) rfl
theorem wp_106 : (Jvm.Cond.selects "SinLensesModel" ({ cls := "SinLensesModel", name := "through", desc := "(II)I" } : Jvm.MethodName) ({ cls := "SinLensesModel", name := "through", desc := "(II)I" } : Jvm.MethodName)) ∈ gw := gwP (List.mem_of_getElem? (i := 106) rfl) rfl
theorem wp_107 : (Jvm.Cond.selects "SinLensesModel" ({ cls := "SinLensesModel", name := "doesOf", desc := "(II)I" } : Jvm.MethodName) ({ cls := "SinLensesModel", name := "doesOf", desc := "(II)I" } : Jvm.MethodName)) ∈ gw := gwP (List.mem_of_getElem? (i := 107) rfl) rfl
theorem wp_108 : (Jvm.Cond.selects "SinLensesModel" ({ cls := "SinLensesModel", name := "tells", desc := "(IIIIJ)J" } : Jvm.MethodName) ({ cls := "SinLensesModel", name := "tells", desc := "(IIIIJ)J" } : Jvm.MethodName)) ∈ gw := gwP (List.mem_of_getElem? (i := 108) rfl) rfl
theorem wp_109 : (Jvm.Cond.selects "SinLensesModel" ({ cls := "SinLensesModel", name := "sinsOf", desc := "(I)I" } : Jvm.MethodName) ({ cls := "SinLensesModel", name := "sinsOf", desc := "(I)I" } : Jvm.MethodName)) ∈ gw := gwP (List.mem_of_getElem? (i := 109) rfl) rfl
theorem wp_110 : (Jvm.Cond.selects "SinLensesModel" ({ cls := "SinLensesModel", name := "isSo", desc := "(I)Z" } : Jvm.MethodName) ({ cls := "SinLensesModel", name := "isSo", desc := "(I)Z" } : Jvm.MethodName)) ∈ gw := gwP (List.mem_of_getElem? (i := 110) rfl) rfl
theorem wp_111 : (Jvm.Cond.selects "SinLensesModel" ({ cls := "SinLensesModel", name := "reckonAll", desc := "(II)V" } : Jvm.MethodName) ({ cls := "SinLensesModel", name := "reckonAll", desc := "(II)V" } : Jvm.MethodName)) ∈ gw := gwP (List.mem_of_getElem? (i := 111) rfl) rfl
theorem wp_112 : (Jvm.Cond.selects "SinLensesModel" ({ cls := "SinLensesModel", name := "reckon", desc := "(IJJ)J" } : Jvm.MethodName) ({ cls := "SinLensesModel", name := "reckon", desc := "(IJJ)J" } : Jvm.MethodName)) ∈ gw := gwP (List.mem_of_getElem? (i := 112) rfl) rfl
theorem wp_113 : (Jvm.Cond.selects "SinLensesModel" ({ cls := "SinLensesModel", name := "isBarred", desc := "(I)Z" } : Jvm.MethodName) ({ cls := "SinLensesModel", name := "isBarred", desc := "(I)Z" } : Jvm.MethodName)) ∈ gw := gwP (List.mem_of_getElem? (i := 113) rfl) rfl
theorem wp_114 : (Jvm.Cond.selects "SinLensesModel" ({ cls := "SinLensesModel", name := "grindsOf", desc := "(II)I" } : Jvm.MethodName) ({ cls := "SinLensesModel", name := "grindsOf", desc := "(II)I" } : Jvm.MethodName)) ∈ gw := gwP (List.mem_of_getElem? (i := 114) rfl) rfl
theorem wp_115 : (Jvm.Cond.selects "SinLensesModel" ({ cls := "SinLensesModel", name := "growsOf", desc := "(II)I" } : Jvm.MethodName) ({ cls := "SinLensesModel", name := "growsOf", desc := "(II)I" } : Jvm.MethodName)) ∈ gw := gwP (List.mem_of_getElem? (i := 115) rfl) rfl
theorem wp_116 : (Jvm.Cond.selects "SinLensesModel" ({ cls := "SinLensesModel", name := "putGlass", desc := "(II)V" } : Jvm.MethodName) ({ cls := "SinLensesModel", name := "putGlass", desc := "(II)V" } : Jvm.MethodName)) ∈ gw := gwP (List.mem_of_getElem? (i := 116) rfl) rfl
theorem wp_117 : (Jvm.Cond.selects "SinLensesModel" ({ cls := "SinLensesModel", name := "change", desc := "(II)I" } : Jvm.MethodName) ({ cls := "SinLensesModel", name := "change", desc := "(II)I" } : Jvm.MethodName)) ∈ gw := gwP (List.mem_of_getElem? (i := 117) rfl) rfl
theorem wp_118 : (Jvm.Cond.selects "SinLensesModel" ({ cls := "SinLensesModel", name := "four", desc := "(I)V" } : Jvm.MethodName) ({ cls := "SinLensesModel", name := "four", desc := "(I)V" } : Jvm.MethodName)) ∈ gw := gwP (List.mem_of_getElem? (i := 118) rfl) rfl
theorem wp_119 : (Jvm.Cond.selects "SinLensesModel" ({ cls := "SinLensesModel", name := "beginText", desc := "(Z)V" } : Jvm.MethodName) ({ cls := "SinLensesModel", name := "beginText", desc := "(Z)V" } : Jvm.MethodName)) ∈ gw := gwP (List.mem_of_getElem? (i := 119) rfl) rfl
theorem wp_120 : (Jvm.Cond.selects "SinLensesModel" ({ cls := "SinLensesModel", name := "begin", desc := "()V" } : Jvm.MethodName) ({ cls := "SinLensesModel", name := "begin", desc := "()V" } : Jvm.MethodName)) ∈ gw := gwP (List.mem_of_getElem? (i := 120) rfl) rfl
theorem wp_121 : (Jvm.Cond.selects "SinLensesModel" ({ cls := "SinLensesModel", name := "next", desc := "()V" } : Jvm.MethodName) ({ cls := "SinLensesModel", name := "next", desc := "()V" } : Jvm.MethodName)) ∈ gw := gwP (List.mem_of_getElem? (i := 121) rfl) rfl
theorem wp_122 : (Jvm.Cond.selects "SinLensesModel" ({ cls := "SinLensesModel", name := "readLaw", desc := "()V" } : Jvm.MethodName) ({ cls := "SinLensesModel", name := "readLaw", desc := "()V" } : Jvm.MethodName)) ∈ gw := gwP (List.mem_of_getElem? (i := 122) rfl) rfl
theorem wp_123 : (Jvm.Cond.selects "SinLensesModel" ({ cls := "SinLensesModel", name := "isWord", desc := "(J)Z" } : Jvm.MethodName) ({ cls := "SinLensesModel", name := "isWord", desc := "(J)Z" } : Jvm.MethodName)) ∈ gw := gwP (List.mem_of_getElem? (i := 123) rfl) rfl
theorem wp_124 : (Jvm.Cond.selects "SinLensesModel" ({ cls := "SinLensesModel", name := "must", desc := "(Z)V" } : Jvm.MethodName) ({ cls := "SinLensesModel", name := "must", desc := "(Z)V" } : Jvm.MethodName)) ∈ gw := gwP (List.mem_of_getElem? (i := 124) rfl) rfl
theorem wp_125 : (Jvm.Cond.selects "SinLensesModel" ({ cls := "SinLensesModel", name := "readExpression", desc := "(Z)V" } : Jvm.MethodName) ({ cls := "SinLensesModel", name := "readExpression", desc := "(Z)V" } : Jvm.MethodName)) ∈ gw := gwP (List.mem_of_getElem? (i := 125) rfl) rfl
theorem wp_126 : (Jvm.Cond.selects "SinLensesModel" ({ cls := "SinLensesModel", name := "readPlain", desc := "()I" } : Jvm.MethodName) ({ cls := "SinLensesModel", name := "readPlain", desc := "()I" } : Jvm.MethodName)) ∈ gw := gwP (List.mem_of_getElem? (i := 126) rfl) rfl
theorem wp_127 : (Jvm.Cond.selects "SinLensesModel" ({ cls := "SinLensesModel", name := "push", desc := "(II)V" } : Jvm.MethodName) ({ cls := "SinLensesModel", name := "push", desc := "(II)V" } : Jvm.MethodName)) ∈ gw := gwP (List.mem_of_getElem? (i := 127) rfl) rfl
theorem wp_128 : (Jvm.Cond.selects "SinLensesModel" ({ cls := "SinLensesModel", name := "isSign", desc := "(I)Z" } : Jvm.MethodName) ({ cls := "SinLensesModel", name := "isSign", desc := "(I)Z" } : Jvm.MethodName)) ∈ gw := gwP (List.mem_of_getElem? (i := 128) rfl) rfl
theorem wp_129 : (Jvm.Cond.selects "SinLensesModel" ({ cls := "SinLensesModel", name := "openBracket", desc := "(I)V" } : Jvm.MethodName) ({ cls := "SinLensesModel", name := "openBracket", desc := "(I)V" } : Jvm.MethodName)) ∈ gw := gwP (List.mem_of_getElem? (i := 129) rfl) rfl
theorem wp_130 : (Jvm.Cond.selects "SinLensesModel" ({ cls := "SinLensesModel", name := "readPart", desc := "()I" } : Jvm.MethodName) ({ cls := "SinLensesModel", name := "readPart", desc := "()I" } : Jvm.MethodName)) ∈ gw := gwP (List.mem_of_getElem? (i := 130) rfl) rfl
theorem wp_131 : (Jvm.Cond.selects "SinLensesModel" ({ cls := "SinLensesModel", name := "orderPartAt", desc := "()I" } : Jvm.MethodName) ({ cls := "SinLensesModel", name := "orderPartAt", desc := "()I" } : Jvm.MethodName)) ∈ gw := gwP (List.mem_of_getElem? (i := 131) rfl) rfl
theorem wp_132 : (Jvm.Cond.selects "SinLensesModel" ({ cls := "SinLensesModel", name := "partAt", desc := "()I" } : Jvm.MethodName) ({ cls := "SinLensesModel", name := "partAt", desc := "()I" } : Jvm.MethodName)) ∈ gw := gwP (List.mem_of_getElem? (i := 132) rfl) rfl
theorem wp_133 : (Jvm.Cond.selects "SinLensesModel" ({ cls := "SinLensesModel", name := "leaf", desc := "(ZII)V" } : Jvm.MethodName) ({ cls := "SinLensesModel", name := "leaf", desc := "(ZII)V" } : Jvm.MethodName)) ∈ gw := gwP (List.mem_of_getElem? (i := 133) rfl) rfl
theorem wp_134 : (Jvm.Cond.selects "SinLensesModel" ({ cls := "SinLensesModel", name := "emit", desc := "(II)V" } : Jvm.MethodName) ({ cls := "SinLensesModel", name := "emit", desc := "(II)V" } : Jvm.MethodName)) ∈ gw := gwP (List.mem_of_getElem? (i := 134) rfl) rfl
theorem wp_135 : (Jvm.Cond.selects "SinLensesModel" ({ cls := "SinLensesModel", name := "number", desc := "(JJ)I" } : Jvm.MethodName) ({ cls := "SinLensesModel", name := "number", desc := "(JJ)I" } : Jvm.MethodName)) ∈ gw := gwP (List.mem_of_getElem? (i := 135) rfl) rfl
theorem wp_136 : (Jvm.Cond.selects "SinLensesModel" ({ cls := "SinLensesModel", name := "behindSum", desc := "(Z)I" } : Jvm.MethodName) ({ cls := "SinLensesModel", name := "behindSum", desc := "(Z)I" } : Jvm.MethodName)) ∈ gw := gwP (List.mem_of_getElem? (i := 136) rfl) rfl
theorem wp_137 : (Jvm.Cond.selects "SinLensesModel" ({ cls := "SinLensesModel", name := "settle", desc := "(I)V" } : Jvm.MethodName) ({ cls := "SinLensesModel", name := "settle", desc := "(I)V" } : Jvm.MethodName)) ∈ gw := gwP (List.mem_of_getElem? (i := 137) rfl) rfl
theorem wp_138 : (Jvm.Cond.selects "SinLensesModel" ({ cls := "SinLensesModel", name := "inner", desc := "()I" } : Jvm.MethodName) ({ cls := "SinLensesModel", name := "inner", desc := "()I" } : Jvm.MethodName)) ∈ gw := gwP (List.mem_of_getElem? (i := 138) rfl) rfl
theorem wp_139 : (Jvm.Cond.selects "SinLensesModel" ({ cls := "SinLensesModel", name := "isCompared", desc := "()Z" } : Jvm.MethodName) ({ cls := "SinLensesModel", name := "isCompared", desc := "()Z" } : Jvm.MethodName)) ∈ gw := gwP (List.mem_of_getElem? (i := 139) rfl) rfl
theorem wp_140 : (Jvm.Cond.selects "SinLensesModel" ({ cls := "SinLensesModel", name := "behindTest", desc := "()I" } : Jvm.MethodName) ({ cls := "SinLensesModel", name := "behindTest", desc := "()I" } : Jvm.MethodName)) ∈ gw := gwP (List.mem_of_getElem? (i := 140) rfl) rfl
theorem wp_141 : (Jvm.Cond.selects "SinLensesModel" ({ cls := "SinLensesModel", name := "endText", desc := "()V" } : Jvm.MethodName) ({ cls := "SinLensesModel", name := "endText", desc := "()V" } : Jvm.MethodName)) ∈ gw := gwP (List.mem_of_getElem? (i := 141) rfl) rfl
theorem wp_142 : (Jvm.Cond.selects "SinLensesModel" ({ cls := "SinLensesModel", name := "isLaw", desc := "(I)Z" } : Jvm.MethodName) ({ cls := "SinLensesModel", name := "isLaw", desc := "(I)Z" } : Jvm.MethodName)) ∈ gw := gwP (List.mem_of_getElem? (i := 142) rfl) rfl
theorem wp_143 : (Jvm.Cond.selects "SinLensesModel" ({ cls := "SinLensesModel", name := "sinNow", desc := "(III)I" } : Jvm.MethodName) ({ cls := "SinLensesModel", name := "sinNow", desc := "(III)I" } : Jvm.MethodName)) ∈ gw := gwP (List.mem_of_getElem? (i := 143) rfl) rfl
theorem wp_144 : (Jvm.Cond.selects "SinLensesModel" ({ cls := "SinLensesModel", name := "remember", desc := "(I)V" } : Jvm.MethodName) ({ cls := "SinLensesModel", name := "remember", desc := "(I)V" } : Jvm.MethodName)) ∈ gw := gwP (List.mem_of_getElem? (i := 144) rfl) rfl
theorem wp_145 : (Jvm.Cond.selects "SinLensesModel" ({ cls := "SinLensesModel", name := "keepAll", desc := "(I)V" } : Jvm.MethodName) ({ cls := "SinLensesModel", name := "keepAll", desc := "(I)V" } : Jvm.MethodName)) ∈ gw := gwP (List.mem_of_getElem? (i := 145) rfl) rfl
theorem wp_146 : (Jvm.Cond.selects "SinLensesModel" ({ cls := "SinLensesModel", name := "grindNow", desc := "(I)I" } : Jvm.MethodName) ({ cls := "SinLensesModel", name := "grindNow", desc := "(I)I" } : Jvm.MethodName)) ∈ gw := gwP (List.mem_of_getElem? (i := 146) rfl) rfl
theorem wp_147 : (Jvm.Cond.selects "SinLensesModel" ({ cls := "SinLensesModel", name := "grindIt", desc := "(I)I" } : Jvm.MethodName) ({ cls := "SinLensesModel", name := "grindIt", desc := "(I)I" } : Jvm.MethodName)) ∈ gw := gwP (List.mem_of_getElem? (i := 147) rfl) rfl
theorem wp_148 : (Jvm.Cond.selects "SinLensesModel" ({ cls := "SinLensesModel", name := "layGround", desc := "(I)I" } : Jvm.MethodName) ({ cls := "SinLensesModel", name := "layGround", desc := "(I)I" } : Jvm.MethodName)) ∈ gw := gwP (List.mem_of_getElem? (i := 148) rfl) rfl
theorem wp_149 : (Jvm.Cond.selects "SinLensesModel" ({ cls := "SinLensesModel", name := "swapNow", desc := "(II)I" } : Jvm.MethodName) ({ cls := "SinLensesModel", name := "swapNow", desc := "(II)I" } : Jvm.MethodName)) ∈ gw := gwP (List.mem_of_getElem? (i := 149) rfl) rfl
theorem wp_150 : (Jvm.Cond.selects "SinLensesModel" ({ cls := "SinLensesModel", name := "exchange", desc := "(II)V" } : Jvm.MethodName) ({ cls := "SinLensesModel", name := "exchange", desc := "(II)V" } : Jvm.MethodName)) ∈ gw := gwP (List.mem_of_getElem? (i := 150) rfl) rfl
theorem wp_151 : (Jvm.Cond.selects "SinLensesModel" ({ cls := "SinLensesModel", name := "clothNow", desc := "(I)I" } : Jvm.MethodName) ({ cls := "SinLensesModel", name := "clothNow", desc := "(I)I" } : Jvm.MethodName)) ∈ gw := gwP (List.mem_of_getElem? (i := 151) rfl) rfl
theorem wp_152 : (Jvm.Cond.selects "SinLensesModel" ({ cls := "SinLensesModel", name := "passNow", desc := "()I" } : Jvm.MethodName) ({ cls := "SinLensesModel", name := "passNow", desc := "()I" } : Jvm.MethodName)) ∈ gw := gwP (List.mem_of_getElem? (i := 152) rfl) rfl
theorem wp_153 : (Jvm.Cond.selects "SinLensesModel" ({ cls := "SinLensesModel", name := "passIt", desc := "()V" } : Jvm.MethodName) ({ cls := "SinLensesModel", name := "passIt", desc := "()V" } : Jvm.MethodName)) ∈ gw := gwP (List.mem_of_getElem? (i := 153) rfl) rfl
theorem wp_154 : (Jvm.Cond.selects "SinLensesModel" ({ cls := "SinLensesModel", name := "layCures", desc := "()V" } : Jvm.MethodName) ({ cls := "SinLensesModel", name := "layCures", desc := "()V" } : Jvm.MethodName)) ∈ gw := gwP (List.mem_of_getElem? (i := 154) rfl) rfl
theorem wp_155 : (Jvm.Cond.selects "SinLensesModel" ({ cls := "SinLensesModel", name := "nextLens", desc := "(I)I" } : Jvm.MethodName) ({ cls := "SinLensesModel", name := "nextLens", desc := "(I)I" } : Jvm.MethodName)) ∈ gw := gwP (List.mem_of_getElem? (i := 155) rfl) rfl
theorem wp_156 : (Jvm.Cond.selects "SinLensesModel" ({ cls := "SinLensesModel", name := "allSee", desc := "(I)Z" } : Jvm.MethodName) ({ cls := "SinLensesModel", name := "allSee", desc := "(I)Z" } : Jvm.MethodName)) ∈ gw := gwP (List.mem_of_getElem? (i := 156) rfl) rfl
theorem wp_157 : (Jvm.Cond.selects "SinLensesModel" ({ cls := "SinLensesModel", name := "mostAlike", desc := "(I)I" } : Jvm.MethodName) ({ cls := "SinLensesModel", name := "mostAlike", desc := "(I)I" } : Jvm.MethodName)) ∈ gw := gwP (List.mem_of_getElem? (i := 157) rfl) rfl
theorem wp_158 : (Jvm.Cond.selects "SinLensesModel" ({ cls := "SinLensesModel", name := "layFitted", desc := "()V" } : Jvm.MethodName) ({ cls := "SinLensesModel", name := "layFitted", desc := "()V" } : Jvm.MethodName)) ∈ gw := gwP (List.mem_of_getElem? (i := 158) rfl) rfl
theorem wp_159 : (Jvm.Cond.selects "SinLensesModel" ({ cls := "SinLensesModel", name := "findFitted", desc := "()I" } : Jvm.MethodName) ({ cls := "SinLensesModel", name := "findFitted", desc := "()I" } : Jvm.MethodName)) ∈ gw := gwP (List.mem_of_getElem? (i := 159) rfl) rfl
theorem wp_160 : (Jvm.Cond.selects "SinLensesModel" ({ cls := "SinLensesModel", name := "isNew", desc := "(I)Z" } : Jvm.MethodName) ({ cls := "SinLensesModel", name := "isNew", desc := "(I)Z" } : Jvm.MethodName)) ∈ gw := gwP (List.mem_of_getElem? (i := 160) rfl) rfl
theorem wp_161 : (Jvm.Cond.selects "SinLensesModel" ({ cls := "SinLensesModel", name := "isIdle", desc := "(II)Z" } : Jvm.MethodName) ({ cls := "SinLensesModel", name := "isIdle", desc := "(II)Z" } : Jvm.MethodName)) ∈ gw := gwP (List.mem_of_getElem? (i := 161) rfl) rfl
theorem wp_162 : (Jvm.Cond.selects "SinLensesModel" ({ cls := "SinLensesModel", name := "readOrder", desc := "()V" } : Jvm.MethodName) ({ cls := "SinLensesModel", name := "readOrder", desc := "()V" } : Jvm.MethodName)) ∈ gw := gwP (List.mem_of_getElem? (i := 162) rfl) rfl
theorem wp_163 : (Jvm.Cond.selects "SinLensesModel" ({ cls := "SinLensesModel", name := "readSum", desc := "(I)V" } : Jvm.MethodName) ({ cls := "SinLensesModel", name := "readSum", desc := "(I)V" } : Jvm.MethodName)) ∈ gw := gwP (List.mem_of_getElem? (i := 163) rfl) rfl
theorem wp_164 : (Jvm.Cond.selects "SinLensesModel" ({ cls := "SinLensesModel", name := "run", desc := "(I)I" } : Jvm.MethodName) ({ cls := "SinLensesModel", name := "run", desc := "(I)I" } : Jvm.MethodName)) ∈ gw := gwP (List.mem_of_getElem? (i := 164) rfl) rfl
theorem wp_165 : (Jvm.Cond.selects "SinLensesModel" ({ cls := "SinLensesModel", name := "sumOf", desc := "(I)I" } : Jvm.MethodName) ({ cls := "SinLensesModel", name := "sumOf", desc := "(I)I" } : Jvm.MethodName)) ∈ gw := gwP (List.mem_of_getElem? (i := 165) rfl) rfl
theorem wp_166 : (Jvm.Cond.selects "SinLensesModel" ({ cls := "SinLensesModel", name := "act", desc := "(III)I" } : Jvm.MethodName) ({ cls := "SinLensesModel", name := "act", desc := "(III)I" } : Jvm.MethodName)) ∈ gw := gwP (List.mem_of_getElem? (i := 166) rfl) rfl
theorem wp_167 : (Jvm.Cond.selects "SinLensesModel" ({ cls := "SinLensesModel", name := "giveBack", desc := "(I)V" } : Jvm.MethodName) ({ cls := "SinLensesModel", name := "giveBack", desc := "(I)V" } : Jvm.MethodName)) ∈ gw := gwP (List.mem_of_getElem? (i := 167) rfl) rfl
theorem wp_168 : (Jvm.Cond.selects "SinLensesModel" ({ cls := "SinLensesModel", name := "draw", desc := "(I)I" } : Jvm.MethodName) ({ cls := "SinLensesModel", name := "draw", desc := "(I)I" } : Jvm.MethodName)) ∈ gw := gwP (List.mem_of_getElem? (i := 168) rfl) rfl
theorem wp_169 : (Jvm.Cond.selects "SinLensesModel" ({ cls := "SinLensesModel", name := "allSins", desc := "()I" } : Jvm.MethodName) ({ cls := "SinLensesModel", name := "allSins", desc := "()I" } : Jvm.MethodName)) ∈ gw := gwP (List.mem_of_getElem? (i := 169) rfl) rfl
/-- a class of the worlds: its number, name, fields, how many, their types; its words -/
def KC (ci : Nat) (Cn : String) (T : u_T) (N : Nat) (ty : Nat → FieldType) : Prop := vwCl[ci]? = some (Cn, T, N) ∧ (∀ k, k < N → u_lay Cn T k ∈ gw) ∧ (∀ k, k < N → parseFieldDescriptor (T k).2.2.1 = some (ty k)) ∧ (∀ a, a < N → ∀ b, b < N → a ≠ b → (T a).2.1 ≠ (T b).2.1)
theorem KC.in {ci : Nat} {Cn : String} {T : u_T} {N : Nat} {ty : Nat → FieldType} (h : KC ci Cn T N ty) : ∀ w ∈ u_ws Cn T N, w ∈ gw := by
  intro w hw
  obtain ⟨k, hk, rfl⟩ := List.mem_map.mp hw
  exact h.2.1 k (List.mem_range.mp hk)
theorem kX0 : KC 0 RX0 TX0 8 tyX0 := ⟨rfl, fun k hk => match k, hk with
    | 0, _ => wd_164
    | 1, _ => wd_166
    | 2, _ => wd_168
    | 3, _ => wd_170
    | 4, _ => wd_172
    | 5, _ => wd_174
    | 6, _ => wd_176
    | 7, _ => wd_178
    | k + 8, h => absurd h (by omega), tyX0_ok, nmX0⟩
theorem kX1 : KC 1 RX1 TX1 2 tyX1 := ⟨rfl, fun k hk => match k, hk with
    | 0, _ => wd_134
    | 1, _ => wd_136
    | k + 2, h => absurd h (by omega), tyX1_ok, nmX1⟩
theorem kX2 : KC 2 RX2 TX2 2 tyX2 := ⟨rfl, fun k hk => match k, hk with
    | 0, _ => wd_119
    | 1, _ => wd_121
    | k + 2, h => absurd h (by omega), tyX2_ok, nmX2⟩
theorem kX4 : KC 3 RX4 TX4 12 tyX4 := ⟨rfl, fun k hk => match k, hk with
    | 0, _ => wd_203
    | 1, _ => wd_205
    | 2, _ => wd_207
    | 3, _ => wd_209
    | 4, _ => wd_211
    | 5, _ => wd_213
    | 6, _ => wd_215
    | 7, _ => wd_217
    | 8, _ => wd_219
    | 9, _ => wd_221
    | 10, _ => wd_223
    | 11, _ => wd_225
    | k + 12, h => absurd h (by omega), tyX4_ok, nmX4⟩
theorem kX5 : KC 4 RX5 TX5 11 tyX5 := ⟨rfl, fun k hk => match k, hk with
    | 0, _ => wd_58
    | 1, _ => wd_60
    | 2, _ => wd_62
    | 3, _ => wd_64
    | 4, _ => wd_66
    | 5, _ => wd_68
    | 6, _ => wd_70
    | 7, _ => wd_72
    | 8, _ => wd_74
    | 9, _ => wd_76
    | 10, _ => wd_78
    | k + 11, h => absurd h (by omega), tyX5_ok, nmX5⟩
theorem kX6 : KC 5 RX6 TX6 11 tyX6 := ⟨rfl, fun k hk => match k, hk with
    | 0, _ => wd_288
    | 1, _ => wd_290
    | 2, _ => wd_292
    | 3, _ => wd_294
    | 4, _ => wd_296
    | 5, _ => wd_298
    | 6, _ => wd_300
    | 7, _ => wd_302
    | 8, _ => wd_304
    | 9, _ => wd_306
    | 10, _ => wd_308
    | k + 11, h => absurd h (by omega), tyX6_ok, nmX6⟩
theorem kX7 : KC 6 RX7 TX7 1 tyX7 := ⟨rfl, fun k hk => match k, hk with
    | 0, _ => wd_113
    | k + 1, h => absurd h (by omega), tyX7_ok, nmX7⟩
theorem kX8 : KC 7 RX8 TX8 7 tyX8 := ⟨rfl, fun k hk => match k, hk with
    | 0, _ => wd_259
    | 1, _ => wd_261
    | 2, _ => wd_263
    | 3, _ => wd_265
    | 4, _ => wd_267
    | 5, _ => wd_269
    | 6, _ => wd_271
    | k + 7, h => absurd h (by omega), tyX8_ok, nmX8⟩
theorem kX9 : KC 8 RX9 TX9 3 tyX9 := ⟨rfl, fun k hk => match k, hk with
    | 0, _ => wd_93
    | 1, _ => wd_95
    | 2, _ => wd_97
    | k + 3, h => absurd h (by omega), tyX9_ok, nmX9⟩
theorem kX10 : KC 9 RX10 TX10 13 tyX10 := ⟨rfl, fun k hk => match k, hk with
    | 0, _ => wd_324
    | 1, _ => wd_326
    | 2, _ => wd_328
    | 3, _ => wd_330
    | 4, _ => wd_332
    | 5, _ => wd_334
    | 6, _ => wd_336
    | 7, _ => wd_338
    | 8, _ => wd_340
    | 9, _ => wd_342
    | 10, _ => wd_344
    | 11, _ => wd_346
    | 12, _ => wd_348
    | k + 13, h => absurd h (by omega), tyX10_ok, nmX10⟩
theorem kX11 : KC 10 RX11 TX11 60 tyX11 := ⟨rfl, fun k hk => match k, hk with
    | 0, _ => wd_1214
    | 1, _ => wd_1216
    | 2, _ => wd_1218
    | 3, _ => wd_1220
    | 4, _ => wd_1222
    | 5, _ => wd_1224
    | 6, _ => wd_1226
    | 7, _ => wd_1228
    | 8, _ => wd_1230
    | 9, _ => wd_1232
    | 10, _ => wd_1234
    | 11, _ => wd_1236
    | 12, _ => wd_1238
    | 13, _ => wd_1240
    | 14, _ => wd_1242
    | 15, _ => wd_1244
    | 16, _ => wd_1246
    | 17, _ => wd_1248
    | 18, _ => wd_1250
    | 19, _ => wd_1252
    | 20, _ => wd_1254
    | 21, _ => wd_1256
    | 22, _ => wd_1258
    | 23, _ => wd_1260
    | 24, _ => wd_1262
    | 25, _ => wd_1264
    | 26, _ => wd_1266
    | 27, _ => wd_1268
    | 28, _ => wd_1270
    | 29, _ => wd_1272
    | 30, _ => wd_1274
    | 31, _ => wd_1276
    | 32, _ => wd_1278
    | 33, _ => wd_1280
    | 34, _ => wd_1282
    | 35, _ => wd_1284
    | 36, _ => wd_1286
    | 37, _ => wd_1288
    | 38, _ => wd_1290
    | 39, _ => wd_1292
    | 40, _ => wd_1294
    | 41, _ => wd_1296
    | 42, _ => wd_1298
    | 43, _ => wd_1300
    | 44, _ => wd_1302
    | 45, _ => wd_1304
    | 46, _ => wd_1306
    | 47, _ => wd_1308
    | 48, _ => wd_1310
    | 49, _ => wd_1312
    | 50, _ => wd_1314
    | 51, _ => wd_1316
    | 52, _ => wd_1318
    | 53, _ => wd_1320
    | 54, _ => wd_1322
    | 55, _ => wd_1324
    | 56, _ => wd_1326
    | 57, _ => wd_1328
    | 58, _ => wd_1330
    | 59, _ => wd_1332
    | k + 60, h => absurd h (by omega), tyX11_ok, nmX11⟩
