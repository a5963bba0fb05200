/-- all words of the tables that a callee may take over -/
def uw : List Cond := lw_tbl.filter goodWord
theorem uw_in {w : Cond} (h : w ∈ uw) : w ∈ lw_tbl := (List.mem_filter.mp h).1
theorem uw_good {w : Cond} (h : w ∈ uw) : goodWord w = true := (List.mem_filter.mp h).2
theorem uw_of {w : Cond} (h : w ∈ tables_1) (g : goodWord w = true) : w ∈ uw := List.mem_filter.mpr ⟨List.mem_append_right _ h, g⟩
theorem uw_sel {q : MethodName × Nat} (h : q ∈ lw_privs) (g : goodWord (Cond.selects q.1.cls q.1 q.1) = true) : Cond.selects q.1.cls q.1 q.1 ∈ uw := List.mem_filter.mpr ⟨List.mem_append_left _ (List.mem_map.mpr ⟨q, h, rfl⟩), g⟩
set_option maxRecDepth 4000 in
theorem u0 : (Jvm.Cond.initialized "WeddingRegisterLaw") ∈ uw := uw_of (List.mem_append_left _ (List.mem_of_getElem? (i := 0) rfl : _ ∈ tables_1_1)) (by rfl)
set_option maxRecDepth 4000 in
theorem u1 : (Jvm.Cond.initialized "WeddingRegister") ∈ uw := uw_of (List.mem_append_left _ (List.mem_of_getElem? (i := 1) rfl : _ ∈ tables_1_1)) (by rfl)
set_option maxRecDepth 4000 in
theorem u2 : (Jvm.Cond.initialized "WeddingRegister$Calendar") ∈ uw := uw_of (List.mem_append_left _ (List.mem_of_getElem? (i := 2) rfl : _ ∈ tables_1_1)) (by rfl)
set_option maxRecDepth 4000 in
theorem u3 : (Jvm.Cond.initialized "WeddingRegister$LawBook") ∈ uw := uw_of (List.mem_append_left _ (List.mem_of_getElem? (i := 3) rfl : _ ∈ tables_1_1)) (by rfl)
set_option maxRecDepth 4000 in
theorem u4 : (Jvm.Cond.initialized "java/util/AbstractCollection") ∈ uw := uw_of (List.mem_append_left _ (List.mem_of_getElem? (i := 4) rfl : _ ∈ tables_1_1)) (by rfl)
set_option maxRecDepth 4000 in
theorem u5 : (Jvm.Cond.initialized "java/util/AbstractList") ∈ uw := uw_of (List.mem_append_left _ (List.mem_of_getElem? (i := 5) rfl : _ ∈ tables_1_1)) (by rfl)
set_option maxRecDepth 4000 in
theorem u6 : (Jvm.Cond.initialized "java/util/ArrayList") ∈ uw := uw_of (List.mem_append_left _ (List.mem_of_getElem? (i := 6) rfl : _ ∈ tables_1_1)) (by rfl)
set_option maxRecDepth 4000 in
theorem u7 : (Jvm.Cond.initialized "WeddingRegister$Law") ∈ uw := uw_of (List.mem_append_left _ (List.mem_of_getElem? (i := 7) rfl : _ ∈ tables_1_1)) (by rfl)
set_option maxRecDepth 4000 in
theorem u8 : (Jvm.Cond.initialized "WeddingRegister$DayPlan") ∈ uw := uw_of (List.mem_append_left _ (List.mem_of_getElem? (i := 8) rfl : _ ∈ tables_1_1)) (by rfl)
set_option maxRecDepth 4000 in
theorem u9 : (Jvm.Cond.initialized "WeddingRegisterModel") ∈ uw := uw_of (List.mem_append_left _ (List.mem_of_getElem? (i := 9) rfl : _ ∈ tables_1_1)) (by rfl)
set_option maxRecDepth 4000 in
theorem u10 : (Jvm.Cond.initialized "jdk/internal/util/ArraysSupport") ∈ uw := uw_of (List.mem_append_left _ (List.mem_of_getElem? (i := 10) rfl : _ ∈ tables_1_1)) (by rfl)
set_option maxRecDepth 4000 in
theorem u11 : (Jvm.Cond.initialized "java/lang/Math") ∈ uw := uw_of (List.mem_append_left _ (List.mem_of_getElem? (i := 11) rfl : _ ∈ tables_1_1)) (by rfl)
set_option maxRecDepth 4000 in
theorem u12 : (Jvm.Cond.initialized "java/util/Arrays") ∈ uw := uw_of (List.mem_append_left _ (List.mem_of_getElem? (i := 12) rfl : _ ∈ tables_1_1)) (by rfl)
set_option maxRecDepth 4000 in
theorem u13 : (Jvm.Cond.initialized "java/lang/System") ∈ uw := uw_of (List.mem_append_left _ (List.mem_of_getElem? (i := 13) rfl : _ ∈ tables_1_1)) (by rfl)
set_option maxRecDepth 4000 in
theorem u14 : (Jvm.Cond.initialized "WeddingRegister$Person") ∈ uw := uw_of (List.mem_append_left _ (List.mem_of_getElem? (i := 14) rfl : _ ∈ tables_1_1)) (by rfl)
set_option maxRecDepth 4000 in
theorem u15 : (Jvm.Cond.initialized "java/util/Objects") ∈ uw := uw_of (List.mem_append_left _ (List.mem_of_getElem? (i := 15) rfl : _ ∈ tables_1_1)) (by rfl)
set_option maxRecDepth 4000 in
theorem u16 : (Jvm.Cond.initialized "jdk/internal/util/Preconditions") ∈ uw := uw_of (List.mem_append_left _ (List.mem_of_getElem? (i := 16) rfl : _ ∈ tables_1_1)) (by rfl)
set_option maxRecDepth 4000 in
theorem u17 : (Jvm.Cond.initialized "WeddingRegister$Paper") ∈ uw := uw_of (List.mem_append_left _ (List.mem_of_getElem? (i := 17) rfl : _ ∈ tables_1_1)) (by rfl)
set_option maxRecDepth 4000 in
theorem u18 : (Jvm.Cond.initialized "WeddingRegister$Notice") ∈ uw := uw_of (List.mem_append_left _ (List.mem_of_getElem? (i := 18) rfl : _ ∈ tables_1_1)) (by rfl)
set_option maxRecDepth 4000 in
theorem u19 : (Jvm.Cond.initialized "java/lang/Long") ∈ uw := uw_of (List.mem_append_left _ (List.mem_of_getElem? (i := 19) rfl : _ ∈ tables_1_1)) (by rfl)
set_option maxRecDepth 4000 in
theorem u20 : (Jvm.Cond.initialized "WeddingRegister$Objection") ∈ uw := uw_of (List.mem_append_left _ (List.mem_of_getElem? (i := 20) rfl : _ ∈ tables_1_1)) (by rfl)
set_option maxRecDepth 4000 in
theorem u21 : (Jvm.Cond.initialized "WeddingRegister$Entry") ∈ uw := uw_of (List.mem_append_left _ (List.mem_of_getElem? (i := 21) rfl : _ ∈ tables_1_1)) (by rfl)
set_option maxRecDepth 4000 in
theorem u22 : (Jvm.Cond.initialized "WeddingRegister$Correction") ∈ uw := uw_of (List.mem_append_left _ (List.mem_of_getElem? (i := 22) rfl : _ ∈ tables_1_1)) (by rfl)
set_option maxRecDepth 4000 in
theorem u23 : (Jvm.Cond.classLink "WeddingRegisterLaw" (7 : Nat) "WeddingRegister") ∈ uw := uw_of (List.mem_append_left _ (List.mem_of_getElem? (i := 23) rfl : _ ∈ tables_1_1)) (by rfl)
set_option maxRecDepth 4000 in
theorem u24 : (Jvm.Cond.instantiable "WeddingRegister" (12 : Nat)) ∈ uw := uw_of (List.mem_append_left _ (List.mem_of_getElem? (i := 24) rfl : _ ∈ tables_1_1)) (by rfl)
set_option maxRecDepth 4000 in
theorem u25 : (Jvm.Cond.methodLink "WeddingRegisterLaw" (9 : Nat) ({ cls := "WeddingRegister", name := "<init>", desc := "()V" } : Jvm.MethodName)) ∈ uw := uw_of (List.mem_append_left _ (List.mem_of_getElem? (i := 25) rfl : _ ∈ tables_1_1)) (by rfl)
set_option maxRecDepth 4000 in
theorem u26 : (Jvm.Cond.instanceMethod ({ cls := "WeddingRegister", name := "<init>", desc := "()V" } : Jvm.MethodName)) ∈ uw := uw_of (List.mem_append_left _ (List.mem_of_getElem? (i := 26) rfl : _ ∈ tables_1_1)) (by rfl)
set_option maxRecDepth 4000 in
theorem u27 : (Jvm.Cond.code ({ cls := "WeddingRegister", name := "<init>", desc := "()V" } : Jvm.MethodName) prog_1_method_1_code (1 : Nat) (Option.none : Option Jvm.ClassFile.FieldType)) ∈ uw := uw_of (List.mem_append_left _ (List.mem_of_getElem? (i := 27) rfl : _ ∈ tables_1_1)) (by rfl)
set_option maxRecDepth 4000 in
theorem u28 : (Jvm.Cond.methodLink "WeddingRegister" (1 : Nat) ({ cls := "java/lang/Object", name := "<init>", desc := "()V" } : Jvm.MethodName)) ∈ uw := uw_of (List.mem_append_left _ (List.mem_of_getElem? (i := 28) rfl : _ ∈ tables_1_1)) (by rfl)
set_option maxRecDepth 4000 in
theorem u29 : (Jvm.Cond.instanceMethod ({ cls := "java/lang/Object", name := "<init>", desc := "()V" } : Jvm.MethodName)) ∈ uw := uw_of (List.mem_append_left _ (List.mem_of_getElem? (i := 29) rfl : _ ∈ tables_1_1)) (by rfl)
set_option maxRecDepth 4000 in
theorem u30 : (Jvm.Cond.code ({ cls := "java/lang/Object", name := "<init>", desc := "()V" } : Jvm.MethodName) object_method_1_code (1 : Nat) (Option.none : Option Jvm.ClassFile.FieldType)) ∈ uw := uw_of (List.mem_append_left _ (List.mem_of_getElem? (i := 30) rfl : _ ∈ tables_1_1)) (by rfl)
set_option maxRecDepth 4000 in
theorem u31 : (Jvm.Cond.classLink "WeddingRegister" (23 : Nat) "WeddingRegister$Calendar") ∈ uw := uw_of (List.mem_append_left _ (List.mem_of_getElem? (i := 31) rfl : _ ∈ tables_1_1)) (by rfl)
set_option maxRecDepth 4000 in
theorem u32 : (Jvm.Cond.instantiable "WeddingRegister$Calendar" (1 : Nat)) ∈ uw := uw_of (List.mem_append_left _ (List.mem_of_getElem? (i := 32) rfl : _ ∈ tables_1_1)) (by rfl)
set_option maxRecDepth 4000 in
theorem u33 : (Jvm.Cond.methodLink "WeddingRegister" (25 : Nat) ({ cls := "WeddingRegister$Calendar", name := "<init>", desc := "()V" } : Jvm.MethodName)) ∈ uw := uw_of (List.mem_append_left _ (List.mem_of_getElem? (i := 33) rfl : _ ∈ tables_1_1)) (by rfl)
set_option maxRecDepth 4000 in
theorem u34 : (Jvm.Cond.instanceMethod ({ cls := "WeddingRegister$Calendar", name := "<init>", desc := "()V" } : Jvm.MethodName)) ∈ uw := uw_of (List.mem_append_left _ (List.mem_of_getElem? (i := 34) rfl : _ ∈ tables_1_1)) (by rfl)
set_option maxRecDepth 4000 in
theorem u35 : (Jvm.Cond.code ({ cls := "WeddingRegister$Calendar", name := "<init>", desc := "()V" } : Jvm.MethodName) prog_2_method_1_code (1 : Nat) (Option.none : Option Jvm.ClassFile.FieldType)) ∈ uw := uw_of (List.mem_append_left _ (List.mem_of_getElem? (i := 35) rfl : _ ∈ tables_1_1)) (by rfl)
set_option maxRecDepth 4000 in
theorem u36 : (Jvm.Cond.methodLink "WeddingRegister$Calendar" (3 : Nat) ({ cls := "java/lang/Object", name := "<init>", desc := "()V" } : Jvm.MethodName)) ∈ uw := uw_of (List.mem_append_left _ (List.mem_of_getElem? (i := 36) rfl : _ ∈ tables_1_1)) (by rfl)
set_option maxRecDepth 4000 in
theorem u37 : (Jvm.Cond.fieldLink "WeddingRegister$Calendar" (9 : Nat) "WeddingRegister$Calendar" "toldFeasts" "[J") ∈ uw := uw_of (List.mem_append_left _ (List.mem_of_getElem? (i := 37) rfl : _ ∈ tables_1_1)) (by rfl)
set_option maxRecDepth 4000 in
theorem u38 : (Jvm.Cond.laysFinal "WeddingRegister$Calendar" "WeddingRegister$Calendar" "toldFeasts" "[J") ∈ uw := uw_of (List.mem_append_left _ (List.mem_of_getElem? (i := 38) rfl : _ ∈ tables_1_1)) (by rfl)
set_option maxRecDepth 4000 in
theorem u41 : (Jvm.Cond.arrayClass Jvm.ClassFile.FieldType.int) ∈ uw := uw_of (List.mem_append_left _ (List.mem_of_getElem? (i := 41) rfl : _ ∈ tables_1_1)) (by rfl)
set_option maxRecDepth 4000 in
theorem u42 : (Jvm.Cond.arrayClass Jvm.ClassFile.FieldType.long) ∈ uw := uw_of (List.mem_append_left _ (List.mem_of_getElem? (i := 42) rfl : _ ∈ tables_1_1)) (by rfl)
set_option maxRecDepth 4000 in
theorem u43 : (Jvm.Cond.classLink "WeddingRegister" (30 : Nat) "WeddingRegister$LawBook") ∈ uw := uw_of (List.mem_append_left _ (List.mem_of_getElem? (i := 43) rfl : _ ∈ tables_1_1)) (by rfl)
set_option maxRecDepth 4000 in
theorem u44 : (Jvm.Cond.instantiable "WeddingRegister$LawBook" (2 : Nat)) ∈ uw := uw_of (List.mem_append_left _ (List.mem_of_getElem? (i := 44) rfl : _ ∈ tables_1_1)) (by rfl)
set_option maxRecDepth 4000 in
theorem u45 : (Jvm.Cond.methodLink "WeddingRegister" (32 : Nat) ({ cls := "WeddingRegister$LawBook", name := "<init>", desc := "()V" } : Jvm.MethodName)) ∈ uw := uw_of (List.mem_append_left _ (List.mem_of_getElem? (i := 45) rfl : _ ∈ tables_1_1)) (by rfl)
set_option maxRecDepth 4000 in
theorem u46 : (Jvm.Cond.instanceMethod ({ cls := "WeddingRegister$LawBook", name := "<init>", desc := "()V" } : Jvm.MethodName)) ∈ uw := uw_of (List.mem_append_left _ (List.mem_of_getElem? (i := 46) rfl : _ ∈ tables_1_1)) (by rfl)
set_option maxRecDepth 4000 in
theorem u47 : (Jvm.Cond.code ({ cls := "WeddingRegister$LawBook", name := "<init>", desc := "()V" } : Jvm.MethodName) prog_7_method_1_code (1 : Nat) (Option.none : Option Jvm.ClassFile.FieldType)) ∈ uw := uw_of (List.mem_append_left _ (List.mem_of_getElem? (i := 47) rfl : _ ∈ tables_1_1)) (by rfl)
set_option maxRecDepth 4000 in
theorem u48 : (Jvm.Cond.methodLink "WeddingRegister$LawBook" (3 : Nat) ({ cls := "java/lang/Object", name := "<init>", desc := "()V" } : Jvm.MethodName)) ∈ uw := uw_of (List.mem_append_left _ (List.mem_of_getElem? (i := 48) rfl : _ ∈ tables_1_1)) (by rfl)
set_option maxRecDepth 4000 in
theorem u49 : (Jvm.Cond.classLink "WeddingRegister$LawBook" (9 : Nat) "java/util/ArrayList") ∈ uw := uw_of (List.mem_append_left _ (List.mem_of_getElem? (i := 49) rfl : _ ∈ tables_1_1)) (by rfl)
set_option maxRecDepth 4000 in
theorem u50 : (Jvm.Cond.instantiable "java/util/ArrayList" (3 : Nat)) ∈ uw := uw_of (List.mem_append_left _ (List.mem_of_getElem? (i := 50) rfl : _ ∈ tables_1_1)) (by rfl)
set_option maxRecDepth 4000 in
theorem u51 : (Jvm.Cond.methodLink "WeddingRegister$LawBook" (11 : Nat) ({ cls := "java/util/ArrayList", name := "<init>", desc := "()V" } : Jvm.MethodName)) ∈ uw := uw_of (List.mem_append_left _ (List.mem_of_getElem? (i := 51) rfl : _ ∈ tables_1_1)) (by rfl)
set_option maxRecDepth 4000 in
theorem u52 : (Jvm.Cond.instanceMethod ({ cls := "java/util/ArrayList", name := "<init>", desc := "()V" } : Jvm.MethodName)) ∈ uw := uw_of (List.mem_append_left _ (List.mem_of_getElem? (i := 52) rfl : _ ∈ tables_1_1)) (by rfl)
set_option maxRecDepth 4000 in
theorem u53 : (Jvm.Cond.code ({ cls := "java/util/ArrayList", name := "<init>", desc := "()V" } : Jvm.MethodName) prog_22_method_2_code (1 : Nat) (Option.none : Option Jvm.ClassFile.FieldType)) ∈ uw := uw_of (List.mem_append_left _ (List.mem_of_getElem? (i := 53) rfl : _ ∈ tables_1_1)) (by rfl)
set_option maxRecDepth 4000 in
theorem u54 : (Jvm.Cond.methodLink "java/util/ArrayList" (1 : Nat) ({ cls := "java/util/AbstractList", name := "<init>", desc := "()V" } : Jvm.MethodName)) ∈ uw := uw_of (List.mem_append_left _ (List.mem_of_getElem? (i := 54) rfl : _ ∈ tables_1_1)) (by rfl)
set_option maxRecDepth 4000 in
theorem u55 : (Jvm.Cond.instanceMethod ({ cls := "java/util/AbstractList", name := "<init>", desc := "()V" } : Jvm.MethodName)) ∈ uw := uw_of (List.mem_append_left _ (List.mem_of_getElem? (i := 55) rfl : _ ∈ tables_1_1)) (by rfl)
set_option maxRecDepth 4000 in
theorem u56 : (Jvm.Cond.code ({ cls := "java/util/AbstractList", name := "<init>", desc := "()V" } : Jvm.MethodName) prog_21_method_1_code (1 : Nat) (Option.none : Option Jvm.ClassFile.FieldType)) ∈ uw := uw_of (List.mem_append_left _ (List.mem_of_getElem? (i := 56) rfl : _ ∈ tables_1_1)) (by rfl)
set_option maxRecDepth 4000 in
theorem u57 : (Jvm.Cond.methodLink "java/util/AbstractList" (1 : Nat) ({ cls := "java/util/AbstractCollection", name := "<init>", desc := "()V" } : Jvm.MethodName)) ∈ uw := uw_of (List.mem_append_left _ (List.mem_of_getElem? (i := 57) rfl : _ ∈ tables_1_1)) (by rfl)
set_option maxRecDepth 4000 in
theorem u58 : (Jvm.Cond.instanceMethod ({ cls := "java/util/AbstractCollection", name := "<init>", desc := "()V" } : Jvm.MethodName)) ∈ uw := uw_of (List.mem_append_left _ (List.mem_of_getElem? (i := 58) rfl : _ ∈ tables_1_1)) (by rfl)
set_option maxRecDepth 4000 in
theorem u59 : (Jvm.Cond.code ({ cls := "java/util/AbstractCollection", name := "<init>", desc := "()V" } : Jvm.MethodName) prog_20_method_1_code (1 : Nat) (Option.none : Option Jvm.ClassFile.FieldType)) ∈ uw := uw_of (List.mem_append_left _ (List.mem_of_getElem? (i := 59) rfl : _ ∈ tables_1_1)) (by rfl)
set_option maxRecDepth 4000 in
theorem u60 : (Jvm.Cond.methodLink "java/util/AbstractCollection" (1 : Nat) ({ cls := "java/lang/Object", name := "<init>", desc := "()V" } : Jvm.MethodName)) ∈ uw := uw_of (List.mem_append_left _ (List.mem_of_getElem? (i := 60) rfl : _ ∈ tables_1_1)) (by rfl)
set_option maxRecDepth 4000 in
theorem u61 : (Jvm.Cond.fieldLink "java/util/ArrayList" (39 : Nat) "java/util/ArrayList" "DEFAULTCAPACITY_EMPTY_ELEMENTDATA" "[Ljava/lang/Object;") ∈ uw := uw_of (List.mem_append_left _ (List.mem_of_getElem? (i := 61) rfl : _ ∈ tables_1_1)) (by rfl)
set_option maxRecDepth 4000 in
theorem u62 : (Jvm.Cond.laysStatic "java/util/ArrayList" "DEFAULTCAPACITY_EMPTY_ELEMENTDATA" "[Ljava/lang/Object;") ∈ lw_tbl := List.mem_append_right _ (List.mem_append_left _ (List.mem_of_getElem? (i := 62) rfl : _ ∈ tables_1_1))
set_option maxRecDepth 4000 in
theorem u63 : (Jvm.Cond.fieldLink "java/util/ArrayList" (9 : Nat) "java/util/ArrayList" "elementData" "[Ljava/lang/Object;") ∈ uw := uw_of (List.mem_append_left _ (List.mem_of_getElem? (i := 63) rfl : _ ∈ tables_1_1)) (by rfl)
set_option maxRecDepth 4000 in
theorem u64 : (Jvm.Cond.fieldLink "java/util/ArrayList" (48 : Nat) "java/util/ArrayList" "size" "I") ∈ uw := uw_of (List.mem_append_left _ (List.mem_of_getElem? (i := 64) rfl : _ ∈ tables_1_1)) (by rfl)
set_option maxRecDepth 4000 in
theorem u65 : (Jvm.Cond.fieldLink "java/util/AbstractList" (7 : Nat) "java/util/AbstractList" "modCount" "I") ∈ uw := uw_of (List.mem_append_left _ (List.mem_of_getElem? (i := 65) rfl : _ ∈ tables_1_1)) (by rfl)
set_option maxRecDepth 4000 in
theorem u66 : (Jvm.Cond.fieldLink "java/util/ArrayList" (63 : Nat) "java/util/ArrayList" "modCount" "I") ∈ uw := uw_of (List.mem_append_left _ (List.mem_of_getElem? (i := 66) rfl : _ ∈ tables_1_1)) (by rfl)
set_option maxRecDepth 4000 in
theorem u67 : (Jvm.Cond.sameField "java/util/ArrayList" "java/util/AbstractList" "modCount" "I") ∈ uw := uw_of (List.mem_append_left _ (List.mem_of_getElem? (i := 67) rfl : _ ∈ tables_1_1)) (by rfl)
set_option maxRecDepth 4000 in
theorem u68 : (Jvm.Cond.lays "java/util/ArrayList" "java/util/ArrayList" "elementData" "[Ljava/lang/Object;") ∈ uw := uw_of (List.mem_append_left _ (List.mem_of_getElem? (i := 68) rfl : _ ∈ tables_1_1)) (by rfl)
set_option maxRecDepth 4000 in
theorem u70 : (Jvm.Cond.lays "java/util/ArrayList" "java/util/ArrayList" "size" "I") ∈ uw := uw_of (List.mem_append_left _ (List.mem_of_getElem? (i := 70) rfl : _ ∈ tables_1_1)) (by rfl)
set_option maxRecDepth 4000 in
theorem u72 : (Jvm.Cond.lays "java/util/ArrayList" "java/util/AbstractList" "modCount" "I") ∈ uw := uw_of (List.mem_append_left _ (List.mem_of_getElem? (i := 72) rfl : _ ∈ tables_1_1)) (by rfl)
set_option maxRecDepth 4000 in
theorem u75 : (Jvm.Cond.classLink "WeddingRegister$LawBook" (18 : Nat) "WeddingRegister$Law") ∈ uw := uw_of (List.mem_append_left _ (List.mem_of_getElem? (i := 75) rfl : _ ∈ tables_1_1)) (by rfl)
set_option maxRecDepth 4000 in
theorem u76 : (Jvm.Cond.instantiable "WeddingRegister$Law" (8 : Nat)) ∈ uw := uw_of (List.mem_append_left _ (List.mem_of_getElem? (i := 76) rfl : _ ∈ tables_1_1)) (by rfl)
set_option maxRecDepth 4000 in
theorem u77 : (Jvm.Cond.methodLink "WeddingRegister$LawBook" (20 : Nat) ({ cls := "WeddingRegister$Law", name := "<init>", desc := "(IIII)V" } : Jvm.MethodName)) ∈ uw := uw_of (List.mem_append_left _ (List.mem_of_getElem? (i := 77) rfl : _ ∈ tables_1_1)) (by rfl)
set_option maxRecDepth 4000 in
theorem u78 : (Jvm.Cond.instanceMethod ({ cls := "WeddingRegister$Law", name := "<init>", desc := "(IIII)V" } : Jvm.MethodName)) ∈ uw := uw_of (List.mem_append_left _ (List.mem_of_getElem? (i := 78) rfl : _ ∈ tables_1_1)) (by rfl)
set_option maxRecDepth 4000 in
theorem u79 : (Jvm.Cond.code ({ cls := "WeddingRegister$Law", name := "<init>", desc := "(IIII)V" } : Jvm.MethodName) prog_6_method_1_code (5 : Nat) (Option.none : Option Jvm.ClassFile.FieldType)) ∈ uw := uw_of (List.mem_append_left _ (List.mem_of_getElem? (i := 79) rfl : _ ∈ tables_1_1)) (by rfl)
set_option maxRecDepth 4000 in
theorem u80 : (Jvm.Cond.methodLink "WeddingRegister$Law" (1 : Nat) ({ cls := "java/lang/Object", name := "<init>", desc := "()V" } : Jvm.MethodName)) ∈ uw := uw_of (List.mem_append_left _ (List.mem_of_getElem? (i := 80) rfl : _ ∈ tables_1_1)) (by rfl)
set_option maxRecDepth 4000 in
theorem u81 : (Jvm.Cond.constant "WeddingRegister$Law" (16 : Nat) (1000000 : Int32)) ∈ uw := uw_of (List.mem_append_left _ (List.mem_of_getElem? (i := 81) rfl : _ ∈ tables_1_1)) (by rfl)
set_option maxRecDepth 4000 in
theorem u82 : (Jvm.Cond.constant "WeddingRegister$Law" (20 : Nat) (100000 : Int32)) ∈ uw := uw_of (List.mem_append_left _ (List.mem_of_getElem? (i := 82) rfl : _ ∈ tables_1_1)) (by rfl)
set_option maxRecDepth 4000 in
theorem u83 : (Jvm.Cond.fieldLink "WeddingRegister$Law" (7 : Nat) "WeddingRegister$Law" "land" "I") ∈ uw := uw_of (List.mem_append_left _ (List.mem_of_getElem? (i := 83) rfl : _ ∈ tables_1_1)) (by rfl)
set_option maxRecDepth 4000 in
theorem u84 : (Jvm.Cond.fieldLink "WeddingRegister$LawBook" (39 : Nat) "WeddingRegister$Law" "land" "I") ∈ uw := uw_of (List.mem_append_left _ (List.mem_of_getElem? (i := 84) rfl : _ ∈ tables_1_1)) (by rfl)
set_option maxRecDepth 4000 in
theorem u85 : (Jvm.Cond.fieldLink "WeddingRegister$Law" (13 : Nat) "WeddingRegister$Law" "day" "I") ∈ uw := uw_of (List.mem_append_left _ (List.mem_of_getElem? (i := 85) rfl : _ ∈ tables_1_1)) (by rfl)
set_option maxRecDepth 4000 in
theorem u86 : (Jvm.Cond.fieldLink "WeddingRegister$LawBook" (43 : Nat) "WeddingRegister$Law" "day" "I") ∈ uw := uw_of (List.mem_append_left _ (List.mem_of_getElem? (i := 86) rfl : _ ∈ tables_1_1)) (by rfl)
set_option maxRecDepth 4000 in
theorem u87 : (Jvm.Cond.fieldLink "WeddingRegister$Law" (17 : Nat) "WeddingRegister$Law" "age" "I") ∈ uw := uw_of (List.mem_append_left _ (List.mem_of_getElem? (i := 87) rfl : _ ∈ tables_1_1)) (by rfl)
set_option maxRecDepth 4000 in
theorem u88 : (Jvm.Cond.fieldLink "WeddingRegister" (314 : Nat) "WeddingRegister$Law" "age" "I") ∈ uw := uw_of (List.mem_append_left _ (List.mem_of_getElem? (i := 88) rfl : _ ∈ tables_1_1)) (by rfl)
set_option maxRecDepth 4000 in
theorem u89 : (Jvm.Cond.fieldLink "WeddingRegister$Law" (21 : Nat) "WeddingRegister$Law" "kin" "I") ∈ uw := uw_of (List.mem_append_left _ (List.mem_of_getElem? (i := 89) rfl : _ ∈ tables_1_1)) (by rfl)
set_option maxRecDepth 4000 in
theorem u90 : (Jvm.Cond.fieldLink "WeddingRegister" (305 : Nat) "WeddingRegister$Law" "kin" "I") ∈ uw := uw_of (List.mem_append_left _ (List.mem_of_getElem? (i := 90) rfl : _ ∈ tables_1_1)) (by rfl)
set_option maxRecDepth 4000 in
theorem u91 : (Jvm.Cond.fieldLink "WeddingRegister$Law" (24 : Nat) "WeddingRegister$Law" "papers" "I") ∈ uw := uw_of (List.mem_append_left _ (List.mem_of_getElem? (i := 91) rfl : _ ∈ tables_1_1)) (by rfl)
set_option maxRecDepth 4000 in
theorem u92 : (Jvm.Cond.fieldLink "WeddingRegister$Law" (27 : Nat) "WeddingRegister$Law" "names" "I") ∈ uw := uw_of (List.mem_append_left _ (List.mem_of_getElem? (i := 92) rfl : _ ∈ tables_1_1)) (by rfl)
set_option maxRecDepth 4000 in
theorem u93 : (Jvm.Cond.fieldLink "WeddingRegister" (368 : Nat) "WeddingRegister$Law" "names" "I") ∈ uw := uw_of (List.mem_append_left _ (List.mem_of_getElem? (i := 93) rfl : _ ∈ tables_1_1)) (by rfl)
set_option maxRecDepth 4000 in
theorem u94 : (Jvm.Cond.fieldLink "WeddingRegister$Law" (30 : Nat) "WeddingRegister$Law" "valid" "I") ∈ uw := uw_of (List.mem_append_left _ (List.mem_of_getElem? (i := 94) rfl : _ ∈ tables_1_1)) (by rfl)
set_option maxRecDepth 4000 in
theorem u95 : (Jvm.Cond.fieldLink "WeddingRegister" (320 : Nat) "WeddingRegister$Law" "valid" "I") ∈ uw := uw_of (List.mem_append_left _ (List.mem_of_getElem? (i := 95) rfl : _ ∈ tables_1_1)) (by rfl)
set_option maxRecDepth 4000 in
theorem u96 : (Jvm.Cond.fieldLink "WeddingRegister$Law" (33 : Nat) "WeddingRegister$Law" "notice" "I") ∈ uw := uw_of (List.mem_append_left _ (List.mem_of_getElem? (i := 96) rfl : _ ∈ tables_1_1)) (by rfl)
set_option maxRecDepth 4000 in
theorem u97 : (Jvm.Cond.fieldLink "WeddingRegister" (327 : Nat) "WeddingRegister$Law" "notice" "I") ∈ uw := uw_of (List.mem_append_left _ (List.mem_of_getElem? (i := 97) rfl : _ ∈ tables_1_1)) (by rfl)
set_option maxRecDepth 4000 in
theorem u98 : (Jvm.Cond.laysFinal "WeddingRegister$Law" "WeddingRegister$Law" "land" "I") ∈ uw := uw_of (List.mem_append_left _ (List.mem_of_getElem? (i := 98) rfl : _ ∈ tables_1_1)) (by rfl)
set_option maxRecDepth 4000 in
theorem u100 : (Jvm.Cond.laysFinal "WeddingRegister$Law" "WeddingRegister$Law" "day" "I") ∈ uw := uw_of (List.mem_append_left _ (List.mem_of_getElem? (i := 100) rfl : _ ∈ tables_1_1)) (by rfl)
set_option maxRecDepth 4000 in
theorem u102 : (Jvm.Cond.laysFinal "WeddingRegister$Law" "WeddingRegister$Law" "age" "I") ∈ uw := uw_of (List.mem_append_left _ (List.mem_of_getElem? (i := 102) rfl : _ ∈ tables_1_1)) (by rfl)
set_option maxRecDepth 4000 in
theorem u104 : (Jvm.Cond.laysFinal "WeddingRegister$Law" "WeddingRegister$Law" "kin" "I") ∈ uw := uw_of (List.mem_append_left _ (List.mem_of_getElem? (i := 104) rfl : _ ∈ tables_1_1)) (by rfl)
set_option maxRecDepth 4000 in
theorem u106 : (Jvm.Cond.laysFinal "WeddingRegister$Law" "WeddingRegister$Law" "papers" "I") ∈ uw := uw_of (List.mem_append_left _ (List.mem_of_getElem? (i := 106) rfl : _ ∈ tables_1_1)) (by rfl)
set_option maxRecDepth 4000 in
theorem u108 : (Jvm.Cond.laysFinal "WeddingRegister$Law" "WeddingRegister$Law" "names" "I") ∈ uw := uw_of (List.mem_append_left _ (List.mem_of_getElem? (i := 108) rfl : _ ∈ tables_1_1)) (by rfl)
set_option maxRecDepth 4000 in
theorem u110 : (Jvm.Cond.laysFinal "WeddingRegister$Law" "WeddingRegister$Law" "valid" "I") ∈ uw := uw_of (List.mem_append_left _ (List.mem_of_getElem? (i := 110) rfl : _ ∈ tables_1_1)) (by rfl)
set_option maxRecDepth 4000 in
theorem u112 : (Jvm.Cond.laysFinal "WeddingRegister$Law" "WeddingRegister$Law" "notice" "I") ∈ uw := uw_of (List.mem_append_left _ (List.mem_of_getElem? (i := 112) rfl : _ ∈ tables_1_1)) (by rfl)
set_option maxRecDepth 4000 in
theorem u115 : (Jvm.Cond.fieldLink "WeddingRegister$LawBook" (12 : Nat) "WeddingRegister$LawBook" "told" "Ljava/util/ArrayList;") ∈ uw := uw_of (List.mem_append_left _ (List.mem_of_getElem? (i := 115) rfl : _ ∈ tables_1_1)) (by rfl)
set_option maxRecDepth 4000 in
theorem u116 : (Jvm.Cond.fieldLink "WeddingRegister$LawBook" (23 : Nat) "WeddingRegister$LawBook" "nothingAsked" "LWeddingRegister$Law;") ∈ uw := uw_of (List.mem_append_left _ (List.mem_of_getElem? (i := 116) rfl : _ ∈ tables_1_1)) (by rfl)
set_option maxRecDepth 4000 in
theorem u117 : (Jvm.Cond.laysFinal "WeddingRegister$LawBook" "WeddingRegister$LawBook" "told" "Ljava/util/ArrayList;") ∈ uw := uw_of (List.mem_append_left _ (List.mem_of_getElem? (i := 117) rfl : _ ∈ tables_1_1)) (by rfl)
set_option maxRecDepth 4000 in
theorem u119 : (Jvm.Cond.laysFinal "WeddingRegister$LawBook" "WeddingRegister$LawBook" "nothingAsked" "LWeddingRegister$Law;") ∈ uw := uw_of (List.mem_append_left _ (List.mem_of_getElem? (i := 119) rfl : _ ∈ tables_1_1)) (by rfl)
set_option maxRecDepth 4000 in
theorem u122 : (Jvm.Cond.classLink "WeddingRegister" (37 : Nat) "java/util/ArrayList") ∈ uw := uw_of (List.mem_append_left _ (List.mem_of_getElem? (i := 122) rfl : _ ∈ tables_1_1)) (by rfl)
set_option maxRecDepth 4000 in
theorem u123 : (Jvm.Cond.methodLink "WeddingRegister" (39 : Nat) ({ cls := "java/util/ArrayList", name := "<init>", desc := "()V" } : Jvm.MethodName)) ∈ uw := uw_of (List.mem_append_left _ (List.mem_of_getElem? (i := 123) rfl : _ ∈ tables_1_1)) (by rfl)
set_option maxRecDepth 4000 in
theorem u124 : (Jvm.Cond.classLink "WeddingRegister" (56 : Nat) "WeddingRegister$DayPlan") ∈ uw := uw_of (List.mem_append_left _ (List.mem_of_getElem? (i := 124) rfl : _ ∈ tables_1_1)) (by rfl)
set_option maxRecDepth 4000 in
theorem u125 : (Jvm.Cond.instantiable "WeddingRegister$DayPlan" (2 : Nat)) ∈ uw := uw_of (List.mem_append_left _ (List.mem_of_getElem? (i := 125) rfl : _ ∈ tables_1_1)) (by rfl)
set_option maxRecDepth 4000 in
theorem u126 : (Jvm.Cond.methodLink "WeddingRegister" (58 : Nat) ({ cls := "WeddingRegister$DayPlan", name := "<init>", desc := "()V" } : Jvm.MethodName)) ∈ uw := uw_of (List.mem_append_left _ (List.mem_of_getElem? (i := 126) rfl : _ ∈ tables_1_1)) (by rfl)
set_option maxRecDepth 4000 in
theorem u127 : (Jvm.Cond.instanceMethod ({ cls := "WeddingRegister$DayPlan", name := "<init>", desc := "()V" } : Jvm.MethodName)) ∈ uw := uw_of (List.mem_append_left _ (List.mem_of_getElem? (i := 127) rfl : _ ∈ tables_1_1)) (by rfl)
set_option maxRecDepth 4000 in
theorem u128 : (Jvm.Cond.code ({ cls := "WeddingRegister$DayPlan", name := "<init>", desc := "()V" } : Jvm.MethodName) prog_4_method_1_code (1 : Nat) (Option.none : Option Jvm.ClassFile.FieldType)) ∈ uw := uw_of (List.mem_append_left _ (List.mem_of_getElem? (i := 128) rfl : _ ∈ tables_1_1)) (by rfl)
set_option maxRecDepth 4000 in
theorem u129 : (Jvm.Cond.methodLink "WeddingRegister$DayPlan" (3 : Nat) ({ cls := "java/lang/Object", name := "<init>", desc := "()V" } : Jvm.MethodName)) ∈ uw := uw_of (List.mem_append_left _ (List.mem_of_getElem? (i := 129) rfl : _ ∈ tables_1_1)) (by rfl)
set_option maxRecDepth 4000 in
theorem u130 : (Jvm.Cond.fieldLink "WeddingRegister$DayPlan" (9 : Nat) "WeddingRegister$DayPlan" "takenHalls" "[I") ∈ uw := uw_of (List.mem_append_left _ (List.mem_of_getElem? (i := 130) rfl : _ ∈ tables_1_1)) (by rfl)
set_option maxRecDepth 4000 in
theorem u131 : (Jvm.Cond.fieldLink "WeddingRegister$DayPlan" (15 : Nat) "WeddingRegister$DayPlan" "hallOfRegistrar" "[I") ∈ uw := uw_of (List.mem_append_left _ (List.mem_of_getElem? (i := 131) rfl : _ ∈ tables_1_1)) (by rfl)
set_option maxRecDepth 4000 in
theorem u132 : (Jvm.Cond.laysFinal "WeddingRegister$DayPlan" "WeddingRegister$DayPlan" "takenHalls" "[I") ∈ uw := uw_of (List.mem_append_left _ (List.mem_of_getElem? (i := 132) rfl : _ ∈ tables_1_1)) (by rfl)
set_option maxRecDepth 4000 in
theorem u134 : (Jvm.Cond.laysFinal "WeddingRegister$DayPlan" "WeddingRegister$DayPlan" "hallOfRegistrar" "[I") ∈ uw := uw_of (List.mem_append_left _ (List.mem_of_getElem? (i := 134) rfl : _ ∈ tables_1_1)) (by rfl)
set_option maxRecDepth 4000 in
theorem u137 : (Jvm.Cond.fieldLink "WeddingRegister" (7 : Nat) "WeddingRegister" "now" "I") ∈ uw := uw_of (List.mem_append_left _ (List.mem_of_getElem? (i := 137) rfl : _ ∈ tables_1_1)) (by rfl)
set_option maxRecDepth 4000 in
theorem u138 : (Jvm.Cond.fieldLink "WeddingRegister" (13 : Nat) "WeddingRegister" "paperCount" "I") ∈ uw := uw_of (List.mem_append_left _ (List.mem_of_getElem? (i := 138) rfl : _ ∈ tables_1_1)) (by rfl)
set_option maxRecDepth 4000 in
theorem u139 : (Jvm.Cond.fieldLink "WeddingRegister" (16 : Nat) "WeddingRegister" "registrarCount" "I") ∈ uw := uw_of (List.mem_append_left _ (List.mem_of_getElem? (i := 139) rfl : _ ∈ tables_1_1)) (by rfl)
set_option maxRecDepth 4000 in
theorem u140 : (Jvm.Cond.fieldLink "WeddingRegister" (19 : Nat) "WeddingRegister" "registrarTongues" "[I") ∈ uw := uw_of (List.mem_append_left _ (List.mem_of_getElem? (i := 140) rfl : _ ∈ tables_1_1)) (by rfl)
set_option maxRecDepth 4000 in
theorem u141 : (Jvm.Cond.fieldLink "WeddingRegister" (26 : Nat) "WeddingRegister" "calendar" "LWeddingRegister$Calendar;") ∈ uw := uw_of (List.mem_append_left _ (List.mem_of_getElem? (i := 141) rfl : _ ∈ tables_1_1)) (by rfl)
set_option maxRecDepth 4000 in
theorem u142 : (Jvm.Cond.fieldLink "WeddingRegister" (33 : Nat) "WeddingRegister" "laws" "LWeddingRegister$LawBook;") ∈ uw := uw_of (List.mem_append_left _ (List.mem_of_getElem? (i := 142) rfl : _ ∈ tables_1_1)) (by rfl)
set_option maxRecDepth 4000 in
theorem u143 : (Jvm.Cond.fieldLink "WeddingRegister" (40 : Nat) "WeddingRegister" "persons" "Ljava/util/ArrayList;") ∈ uw := uw_of (List.mem_append_left _ (List.mem_of_getElem? (i := 143) rfl : _ ∈ tables_1_1)) (by rfl)
set_option maxRecDepth 4000 in
theorem u144 : (Jvm.Cond.fieldLink "WeddingRegister" (44 : Nat) "WeddingRegister" "notices" "Ljava/util/ArrayList;") ∈ uw := uw_of (List.mem_append_left _ (List.mem_of_getElem? (i := 144) rfl : _ ∈ tables_1_1)) (by rfl)
set_option maxRecDepth 4000 in
theorem u145 : (Jvm.Cond.fieldLink "WeddingRegister" (47 : Nat) "WeddingRegister" "objections" "Ljava/util/ArrayList;") ∈ uw := uw_of (List.mem_append_left _ (List.mem_of_getElem? (i := 145) rfl : _ ∈ tables_1_1)) (by rfl)
set_option maxRecDepth 4000 in
theorem u146 : (Jvm.Cond.fieldLink "WeddingRegister" (50 : Nat) "WeddingRegister" "entries" "Ljava/util/ArrayList;") ∈ uw := uw_of (List.mem_append_left _ (List.mem_of_getElem? (i := 146) rfl : _ ∈ tables_1_1)) (by rfl)
set_option maxRecDepth 4000 in
theorem u147 : (Jvm.Cond.fieldLink "WeddingRegister" (53 : Nat) "WeddingRegister" "corrections" "Ljava/util/ArrayList;") ∈ uw := uw_of (List.mem_append_left _ (List.mem_of_getElem? (i := 147) rfl : _ ∈ tables_1_1)) (by rfl)
set_option maxRecDepth 4000 in
theorem u148 : (Jvm.Cond.fieldLink "WeddingRegister" (59 : Nat) "WeddingRegister" "plan" "LWeddingRegister$DayPlan;") ∈ uw := uw_of (List.mem_append_left _ (List.mem_of_getElem? (i := 148) rfl : _ ∈ tables_1_1)) (by rfl)
set_option maxRecDepth 4000 in
theorem u149 : (Jvm.Cond.lays "WeddingRegister" "WeddingRegister" "now" "I") ∈ uw := uw_of (List.mem_append_left _ (List.mem_of_getElem? (i := 149) rfl : _ ∈ tables_1_1)) (by rfl)
set_option maxRecDepth 4000 in
theorem u151 : (Jvm.Cond.lays "WeddingRegister" "WeddingRegister" "paperCount" "I") ∈ uw := uw_of (List.mem_append_left _ (List.mem_of_getElem? (i := 151) rfl : _ ∈ tables_1_1)) (by rfl)
set_option maxRecDepth 4000 in
theorem u153 : (Jvm.Cond.lays "WeddingRegister" "WeddingRegister" "registrarCount" "I") ∈ uw := uw_of (List.mem_append_left _ (List.mem_of_getElem? (i := 153) rfl : _ ∈ tables_1_1)) (by rfl)
set_option maxRecDepth 4000 in
theorem u155 : (Jvm.Cond.laysFinal "WeddingRegister" "WeddingRegister" "registrarTongues" "[I") ∈ uw := uw_of (List.mem_append_left _ (List.mem_of_getElem? (i := 155) rfl : _ ∈ tables_1_1)) (by rfl)
set_option maxRecDepth 4000 in
theorem u157 : (Jvm.Cond.laysFinal "WeddingRegister" "WeddingRegister" "calendar" "LWeddingRegister$Calendar;") ∈ uw := uw_of (List.mem_append_left _ (List.mem_of_getElem? (i := 157) rfl : _ ∈ tables_1_1)) (by rfl)
set_option maxRecDepth 4000 in
theorem u159 : (Jvm.Cond.laysFinal "WeddingRegister" "WeddingRegister" "laws" "LWeddingRegister$LawBook;") ∈ uw := uw_of (List.mem_append_left _ (List.mem_of_getElem? (i := 159) rfl : _ ∈ tables_1_1)) (by rfl)
set_option maxRecDepth 4000 in
theorem u161 : (Jvm.Cond.laysFinal "WeddingRegister" "WeddingRegister" "persons" "Ljava/util/ArrayList;") ∈ uw := uw_of (List.mem_append_left _ (List.mem_of_getElem? (i := 161) rfl : _ ∈ tables_1_1)) (by rfl)
set_option maxRecDepth 4000 in
theorem u163 : (Jvm.Cond.laysFinal "WeddingRegister" "WeddingRegister" "notices" "Ljava/util/ArrayList;") ∈ uw := uw_of (List.mem_append_left _ (List.mem_of_getElem? (i := 163) rfl : _ ∈ tables_1_1)) (by rfl)
set_option maxRecDepth 4000 in
theorem u165 : (Jvm.Cond.laysFinal "WeddingRegister" "WeddingRegister" "objections" "Ljava/util/ArrayList;") ∈ uw := uw_of (List.mem_append_left _ (List.mem_of_getElem? (i := 165) rfl : _ ∈ tables_1_1)) (by rfl)
set_option maxRecDepth 4000 in
theorem u167 : (Jvm.Cond.laysFinal "WeddingRegister" "WeddingRegister" "entries" "Ljava/util/ArrayList;") ∈ uw := uw_of (List.mem_append_left _ (List.mem_of_getElem? (i := 167) rfl : _ ∈ tables_1_1)) (by rfl)
set_option maxRecDepth 4000 in
theorem u169 : (Jvm.Cond.laysFinal "WeddingRegister" "WeddingRegister" "corrections" "Ljava/util/ArrayList;") ∈ uw := uw_of (List.mem_append_left _ (List.mem_of_getElem? (i := 169) rfl : _ ∈ tables_1_1)) (by rfl)
set_option maxRecDepth 4000 in
theorem u171 : (Jvm.Cond.laysFinal "WeddingRegister" "WeddingRegister" "plan" "LWeddingRegister$DayPlan;") ∈ uw := uw_of (List.mem_append_left _ (List.mem_of_getElem? (i := 171) rfl : _ ∈ tables_1_1)) (by rfl)
set_option maxRecDepth 4000 in
theorem u174 : (Jvm.Cond.methodLink "WeddingRegisterLaw" (13 : Nat) ({ cls := "WeddingRegister", name := "law", desc := "(IIII)Z" } : Jvm.MethodName)) ∈ uw := uw_of (List.mem_append_left _ (List.mem_of_getElem? (i := 174) rfl : _ ∈ tables_1_1)) (by rfl)
set_option maxRecDepth 4000 in
theorem u175 : (Jvm.Cond.instanceMethod ({ cls := "WeddingRegister", name := "law", desc := "(IIII)Z" } : Jvm.MethodName)) ∈ uw := uw_of (List.mem_append_left _ (List.mem_of_getElem? (i := 175) rfl : _ ∈ tables_1_1)) (by rfl)
set_option maxRecDepth 4000 in
theorem u176 : (Jvm.Cond.selects "WeddingRegister" ({ cls := "WeddingRegister", name := "law", desc := "(IIII)Z" } : Jvm.MethodName) ({ cls := "WeddingRegister", name := "law", desc := "(IIII)Z" } : Jvm.MethodName)) ∈ uw := uw_of (List.mem_append_left _ (List.mem_of_getElem? (i := 176) rfl : _ ∈ tables_1_1)) (by rfl)
set_option maxRecDepth 4000 in
theorem u177 : (Jvm.Cond.code ({ cls := "WeddingRegister", name := "law", desc := "(IIII)Z" } : Jvm.MethodName) prog_1_method_2_code (5 : Nat) (Option.some Jvm.ClassFile.FieldType.boolean)) ∈ uw := uw_of (List.mem_append_left _ (List.mem_of_getElem? (i := 177) rfl : _ ∈ tables_1_1)) (by rfl)
set_option maxRecDepth 4000 in
theorem u178 : (Jvm.Cond.methodLink "WeddingRegister" (63 : Nat) ({ cls := "WeddingRegister", name := "isDay", desc := "(I)Z" } : Jvm.MethodName)) ∈ uw := uw_of (List.mem_append_left _ (List.mem_of_getElem? (i := 178) rfl : _ ∈ tables_1_1)) (by rfl)
set_option maxRecDepth 4000 in
theorem u179 : (Jvm.Cond.static ({ cls := "WeddingRegister", name := "isDay", desc := "(I)Z" } : Jvm.MethodName)) ∈ uw := uw_of (List.mem_append_left _ (List.mem_of_getElem? (i := 179) rfl : _ ∈ tables_1_1)) (by rfl)
set_option maxRecDepth 4000 in
theorem u180 : (Jvm.Cond.code ({ cls := "WeddingRegister", name := "isDay", desc := "(I)Z" } : Jvm.MethodName) prog_1_method_27_code (1 : Nat) (Option.some Jvm.ClassFile.FieldType.boolean)) ∈ uw := uw_of (List.mem_append_left _ (List.mem_of_getElem? (i := 180) rfl : _ ∈ tables_1_1)) (by rfl)
set_option maxRecDepth 4000 in
theorem u181 : (Jvm.Cond.methodLink "WeddingRegister" (67 : Nat) ({ cls := "WeddingRegister$Law", name := "canBe", desc := "(II)Z" } : Jvm.MethodName)) ∈ uw := uw_of (List.mem_append_left _ (List.mem_of_getElem? (i := 181) rfl : _ ∈ tables_1_1)) (by rfl)
set_option maxRecDepth 4000 in
theorem u182 : (Jvm.Cond.static ({ cls := "WeddingRegister$Law", name := "canBe", desc := "(II)Z" } : Jvm.MethodName)) ∈ uw := uw_of (List.mem_append_left _ (List.mem_of_getElem? (i := 182) rfl : _ ∈ tables_1_1)) (by rfl)
set_option maxRecDepth 4000 in
theorem u183 : (Jvm.Cond.code ({ cls := "WeddingRegister$Law", name := "canBe", desc := "(II)Z" } : Jvm.MethodName) prog_6_method_2_code (2 : Nat) (Option.some Jvm.ClassFile.FieldType.boolean)) ∈ uw := uw_of (List.mem_append_left _ (List.mem_of_getElem? (i := 183) rfl : _ ∈ tables_1_1)) (by rfl)
set_option maxRecDepth 4000 in
theorem u184 : (Jvm.Cond.methodLink "WeddingRegister" (73 : Nat) ({ cls := "WeddingRegister$LawBook", name := "isFull", desc := "()Z" } : Jvm.MethodName)) ∈ uw := uw_of (List.mem_append_left _ (List.mem_of_getElem? (i := 184) rfl : _ ∈ tables_1_1)) (by rfl)
set_option maxRecDepth 4000 in
theorem u185 : (Jvm.Cond.instanceMethod ({ cls := "WeddingRegister$LawBook", name := "isFull", desc := "()Z" } : Jvm.MethodName)) ∈ uw := uw_of (List.mem_append_left _ (List.mem_of_getElem? (i := 185) rfl : _ ∈ tables_1_1)) (by rfl)
set_option maxRecDepth 4000 in
theorem u186 : (Jvm.Cond.selects "WeddingRegister$LawBook" ({ cls := "WeddingRegister$LawBook", name := "isFull", desc := "()Z" } : Jvm.MethodName) ({ cls := "WeddingRegister$LawBook", name := "isFull", desc := "()Z" } : Jvm.MethodName)) ∈ uw := uw_of (List.mem_append_left _ (List.mem_of_getElem? (i := 186) rfl : _ ∈ tables_1_1)) (by rfl)
set_option maxRecDepth 4000 in
theorem u187 : (Jvm.Cond.code ({ cls := "WeddingRegister$LawBook", name := "isFull", desc := "()Z" } : Jvm.MethodName) prog_7_method_2_code (1 : Nat) (Option.some Jvm.ClassFile.FieldType.boolean)) ∈ uw := uw_of (List.mem_append_left _ (List.mem_of_getElem? (i := 187) rfl : _ ∈ tables_1_1)) (by rfl)
set_option maxRecDepth 4000 in
theorem u188 : (Jvm.Cond.methodLink "WeddingRegister$LawBook" (27 : Nat) ({ cls := "java/util/ArrayList", name := "size", desc := "()I" } : Jvm.MethodName)) ∈ uw := uw_of (List.mem_append_left _ (List.mem_of_getElem? (i := 188) rfl : _ ∈ tables_1_1)) (by rfl)
set_option maxRecDepth 4000 in
theorem u189 : (Jvm.Cond.instanceMethod ({ cls := "java/util/ArrayList", name := "size", desc := "()I" } : Jvm.MethodName)) ∈ uw := uw_of (List.mem_append_left _ (List.mem_of_getElem? (i := 189) rfl : _ ∈ tables_1_1)) (by rfl)
set_option maxRecDepth 4000 in
theorem u190 : (Jvm.Cond.selects "java/util/ArrayList" ({ cls := "java/util/ArrayList", name := "size", desc := "()I" } : Jvm.MethodName) ({ cls := "java/util/ArrayList", name := "size", desc := "()I" } : Jvm.MethodName)) ∈ uw := uw_of (List.mem_append_left _ (List.mem_of_getElem? (i := 190) rfl : _ ∈ tables_1_1)) (by rfl)
set_option maxRecDepth 4000 in
theorem u191 : (Jvm.Cond.code ({ cls := "java/util/ArrayList", name := "size", desc := "()I" } : Jvm.MethodName) prog_22_method_8_code (1 : Nat) (Option.some Jvm.ClassFile.FieldType.int)) ∈ uw := uw_of (List.mem_append_left _ (List.mem_of_getElem? (i := 191) rfl : _ ∈ tables_1_1)) (by rfl)
set_option maxRecDepth 4000 in
theorem u192 : (Jvm.Cond.classLink "WeddingRegister" (68 : Nat) "WeddingRegister$Law") ∈ uw := uw_of (List.mem_append_left _ (List.mem_of_getElem? (i := 192) rfl : _ ∈ tables_1_1)) (by rfl)
set_option maxRecDepth 4000 in
theorem u193 : (Jvm.Cond.methodLink "WeddingRegister" (77 : Nat) ({ cls := "WeddingRegister$Law", name := "<init>", desc := "(IIII)V" } : Jvm.MethodName)) ∈ uw := uw_of (List.mem_append_left _ (List.mem_of_getElem? (i := 193) rfl : _ ∈ tables_1_1)) (by rfl)
set_option maxRecDepth 4000 in
theorem u194 : (Jvm.Cond.methodLink "WeddingRegister" (80 : Nat) ({ cls := "WeddingRegister$LawBook", name := "tell", desc := "(LWeddingRegister$Law;)V" } : Jvm.MethodName)) ∈ uw := uw_of (List.mem_append_left _ (List.mem_of_getElem? (i := 194) rfl : _ ∈ tables_1_1)) (by rfl)
set_option maxRecDepth 4000 in
theorem u195 : (Jvm.Cond.instanceMethod ({ cls := "WeddingRegister$LawBook", name := "tell", desc := "(LWeddingRegister$Law;)V" } : Jvm.MethodName)) ∈ uw := uw_of (List.mem_append_left _ (List.mem_of_getElem? (i := 195) rfl : _ ∈ tables_1_1)) (by rfl)
set_option maxRecDepth 4000 in
theorem u196 : (Jvm.Cond.selects "WeddingRegister$LawBook" ({ cls := "WeddingRegister$LawBook", name := "tell", desc := "(LWeddingRegister$Law;)V" } : Jvm.MethodName) ({ cls := "WeddingRegister$LawBook", name := "tell", desc := "(LWeddingRegister$Law;)V" } : Jvm.MethodName)) ∈ uw := uw_of (List.mem_append_left _ (List.mem_of_getElem? (i := 196) rfl : _ ∈ tables_1_1)) (by rfl)
set_option maxRecDepth 4000 in
theorem u197 : (Jvm.Cond.code ({ cls := "WeddingRegister$LawBook", name := "tell", desc := "(LWeddingRegister$Law;)V" } : Jvm.MethodName) prog_7_method_3_code (2 : Nat) (Option.none : Option Jvm.ClassFile.FieldType)) ∈ uw := uw_of (List.mem_append_left _ (List.mem_of_getElem? (i := 197) rfl : _ ∈ tables_1_1)) (by rfl)
set_option maxRecDepth 4000 in
theorem u198 : (Jvm.Cond.methodLink "WeddingRegister$LawBook" (31 : Nat) ({ cls := "java/util/ArrayList", name := "add", desc := "(Ljava/lang/Object;)Z" } : Jvm.MethodName)) ∈ uw := uw_of (List.mem_append_left _ (List.mem_of_getElem? (i := 198) rfl : _ ∈ tables_1_1)) (by rfl)
set_option maxRecDepth 4000 in
theorem u199 : (Jvm.Cond.instanceMethod ({ cls := "java/util/ArrayList", name := "add", desc := "(Ljava/lang/Object;)Z" } : Jvm.MethodName)) ∈ uw := uw_of (List.mem_append_left _ (List.mem_of_getElem? (i := 199) rfl : _ ∈ tables_1_1)) (by rfl)
set_option maxRecDepth 4000 in
theorem u200 : (Jvm.Cond.selects "java/util/ArrayList" ({ cls := "java/util/ArrayList", name := "add", desc := "(Ljava/lang/Object;)Z" } : Jvm.MethodName) ({ cls := "java/util/ArrayList", name := "add", desc := "(Ljava/lang/Object;)Z" } : Jvm.MethodName)) ∈ uw := uw_of (List.mem_append_left _ (List.mem_of_getElem? (i := 200) rfl : _ ∈ tables_1_1)) (by rfl)
set_option maxRecDepth 4000 in
theorem u201 : (Jvm.Cond.code ({ cls := "java/util/ArrayList", name := "add", desc := "(Ljava/lang/Object;)Z" } : Jvm.MethodName) prog_22_method_25_code (2 : Nat) (Option.some Jvm.ClassFile.FieldType.boolean)) ∈ uw := uw_of (List.mem_append_left _ (List.mem_of_getElem? (i := 201) rfl : _ ∈ tables_1_1)) (by rfl)
set_option maxRecDepth 4000 in
theorem u202 : (Jvm.Cond.methodLink "java/util/ArrayList" (131 : Nat) ({ cls := "java/util/ArrayList", name := "add", desc := "(Ljava/lang/Object;[Ljava/lang/Object;I)V" } : Jvm.MethodName)) ∈ uw := uw_of (List.mem_append_left _ (List.mem_of_getElem? (i := 202) rfl : _ ∈ tables_1_1)) (by rfl)
set_option maxRecDepth 4000 in
theorem u204 : (Jvm.Cond.instanceMethod ({ cls := "java/util/ArrayList", name := "add", desc := "(Ljava/lang/Object;[Ljava/lang/Object;I)V" } : Jvm.MethodName)) ∈ uw := uw_of (List.mem_append_left _ (List.mem_of_getElem? (i := 204) rfl : _ ∈ tables_1_1)) (by rfl)
set_option maxRecDepth 4000 in
theorem u205 : (Jvm.Cond.code ({ cls := "java/util/ArrayList", name := "add", desc := "(Ljava/lang/Object;[Ljava/lang/Object;I)V" } : Jvm.MethodName) prog_22_method_24_code (4 : Nat) (Option.none : Option Jvm.ClassFile.FieldType)) ∈ uw := uw_of (List.mem_append_left _ (List.mem_of_getElem? (i := 205) rfl : _ ∈ tables_1_1)) (by rfl)
set_option maxRecDepth 4000 in
theorem u206 : (Jvm.Cond.methodLink "java/util/ArrayList" (129 : Nat) ({ cls := "java/util/ArrayList", name := "grow", desc := "()[Ljava/lang/Object;" } : Jvm.MethodName)) ∈ uw := uw_of (List.mem_append_left _ (List.mem_of_getElem? (i := 206) rfl : _ ∈ tables_1_1)) (by rfl)
set_option maxRecDepth 4000 in
theorem u208 : (Jvm.Cond.instanceMethod ({ cls := "java/util/ArrayList", name := "grow", desc := "()[Ljava/lang/Object;" } : Jvm.MethodName)) ∈ uw := uw_of (List.mem_append_left _ (List.mem_of_getElem? (i := 208) rfl : _ ∈ tables_1_1)) (by rfl)
set_option maxRecDepth 4000 in
theorem u209 : (Jvm.Cond.code ({ cls := "java/util/ArrayList", name := "grow", desc := "()[Ljava/lang/Object;" } : Jvm.MethodName) prog_22_method_7_code (1 : Nat) (Option.some (Jvm.ClassFile.FieldType.array (Jvm.ClassFile.FieldType.object "java/lang/Object")))) ∈ uw := uw_of (List.mem_append_left _ (List.mem_of_getElem? (i := 209) rfl : _ ∈ tables_1_1)) (by rfl)
set_option maxRecDepth 4000 in
theorem u210 : (Jvm.Cond.methodLink "java/util/ArrayList" (69 : Nat) ({ cls := "java/util/ArrayList", name := "grow", desc := "(I)[Ljava/lang/Object;" } : Jvm.MethodName)) ∈ uw := uw_of (List.mem_append_left _ (List.mem_of_getElem? (i := 210) rfl : _ ∈ tables_1_1)) (by rfl)
set_option maxRecDepth 4000 in
theorem u212 : (Jvm.Cond.instanceMethod ({ cls := "java/util/ArrayList", name := "grow", desc := "(I)[Ljava/lang/Object;" } : Jvm.MethodName)) ∈ uw := uw_of (List.mem_append_left _ (List.mem_of_getElem? (i := 212) rfl : _ ∈ tables_1_1)) (by rfl)
set_option maxRecDepth 4000 in
theorem u213 : (Jvm.Cond.code ({ cls := "java/util/ArrayList", name := "grow", desc := "(I)[Ljava/lang/Object;" } : Jvm.MethodName) prog_22_method_6_code (4 : Nat) (Option.some (Jvm.ClassFile.FieldType.array (Jvm.ClassFile.FieldType.object "java/lang/Object")))) ∈ uw := uw_of (List.mem_append_left _ (List.mem_of_getElem? (i := 213) rfl : _ ∈ tables_1_1)) (by rfl)
set_option maxRecDepth 4000 in
theorem u214 : (Jvm.Cond.methodLink "java/util/ArrayList" (73 : Nat) ({ cls := "jdk/internal/util/ArraysSupport", name := "newLength", desc := "(III)I" } : Jvm.MethodName)) ∈ uw := uw_of (List.mem_append_left _ (List.mem_of_getElem? (i := 214) rfl : _ ∈ tables_1_1)) (by rfl)
set_option maxRecDepth 4000 in
theorem u215 : (Jvm.Cond.static ({ cls := "jdk/internal/util/ArraysSupport", name := "newLength", desc := "(III)I" } : Jvm.MethodName)) ∈ uw := uw_of (List.mem_append_left _ (List.mem_of_getElem? (i := 215) rfl : _ ∈ tables_1_1)) (by rfl)
set_option maxRecDepth 4000 in
theorem u216 : (Jvm.Cond.code ({ cls := "jdk/internal/util/ArraysSupport", name := "newLength", desc := "(III)I" } : Jvm.MethodName) prog_29_method_27_code (4 : Nat) (Option.some Jvm.ClassFile.FieldType.int)) ∈ uw := uw_of (List.mem_append_left _ (List.mem_of_getElem? (i := 216) rfl : _ ∈ tables_1_1)) (by rfl)
set_option maxRecDepth 4000 in
theorem u217 : (Jvm.Cond.methodLink "jdk/internal/util/ArraysSupport" (194 : Nat) ({ cls := "java/lang/Math", name := "max", desc := "(II)I" } : Jvm.MethodName)) ∈ uw := uw_of (List.mem_append_left _ (List.mem_of_getElem? (i := 217) rfl : _ ∈ tables_1_1)) (by rfl)
set_option maxRecDepth 4000 in
theorem u218 : (Jvm.Cond.static ({ cls := "java/lang/Math", name := "max", desc := "(II)I" } : Jvm.MethodName)) ∈ uw := uw_of (List.mem_append_left _ (List.mem_of_getElem? (i := 218) rfl : _ ∈ tables_1_1)) (by rfl)
set_option maxRecDepth 4000 in
theorem u219 : (Jvm.Cond.code ({ cls := "java/lang/Math", name := "max", desc := "(II)I" } : Jvm.MethodName) prog_18_method_65_code (2 : Nat) (Option.some Jvm.ClassFile.FieldType.int)) ∈ uw := uw_of (List.mem_append_left _ (List.mem_of_getElem? (i := 219) rfl : _ ∈ tables_1_1)) (by rfl)
set_option maxRecDepth 4000 in
theorem u220 : (Jvm.Cond.constant "jdk/internal/util/ArraysSupport" (200 : Nat) (2147483639 : Int32)) ∈ uw := uw_of (List.mem_append_left _ (List.mem_of_getElem? (i := 220) rfl : _ ∈ tables_1_1)) (by rfl)
set_option maxRecDepth 4000 in
theorem u221 : (Jvm.Cond.methodLink "jdk/internal/util/ArraysSupport" (201 : Nat) ({ cls := "jdk/internal/util/ArraysSupport", name := "hugeLength", desc := "(II)I" } : Jvm.MethodName)) ∈ uw := uw_of (List.mem_append_left _ (List.mem_of_getElem? (i := 221) rfl : _ ∈ tables_1_1)) (by rfl)
set_option maxRecDepth 4000 in
theorem u222 : (Jvm.Cond.static ({ cls := "jdk/internal/util/ArraysSupport", name := "hugeLength", desc := "(II)I" } : Jvm.MethodName)) ∈ uw := uw_of (List.mem_append_left _ (List.mem_of_getElem? (i := 222) rfl : _ ∈ tables_1_1)) (by rfl)
set_option maxRecDepth 4000 in
theorem u223 : (Jvm.Cond.code ({ cls := "jdk/internal/util/ArraysSupport", name := "hugeLength", desc := "(II)I" } : Jvm.MethodName) prog_29_method_28_code (3 : Nat) (Option.some Jvm.ClassFile.FieldType.int)) ∈ uw := uw_of (List.mem_append_left _ (List.mem_of_getElem? (i := 223) rfl : _ ∈ tables_1_1)) (by rfl)
set_option maxRecDepth 4000 in
theorem u224 : (Jvm.Cond.methodLink "java/util/ArrayList" (66 : Nat) ({ cls := "java/util/Arrays", name := "copyOf", desc := "([Ljava/lang/Object;I)[Ljava/lang/Object;" } : Jvm.MethodName)) ∈ uw := uw_of (List.mem_append_left _ (List.mem_of_getElem? (i := 224) rfl : _ ∈ tables_1_1)) (by rfl)
set_option maxRecDepth 4000 in
theorem u225 : (Jvm.Cond.static ({ cls := "java/util/Arrays", name := "copyOf", desc := "([Ljava/lang/Object;I)[Ljava/lang/Object;" } : Jvm.MethodName)) ∈ uw := uw_of (List.mem_append_left _ (List.mem_of_getElem? (i := 225) rfl : _ ∈ tables_1_1)) (by rfl)
set_option maxRecDepth 4000 in
theorem u226 : (Jvm.Cond.code ({ cls := "java/util/Arrays", name := "copyOf", desc := "([Ljava/lang/Object;I)[Ljava/lang/Object;" } : Jvm.MethodName) prog_23_method_119_code (2 : Nat) (Option.some (Jvm.ClassFile.FieldType.array (Jvm.ClassFile.FieldType.object "java/lang/Object")))) ∈ uw := uw_of (List.mem_append_left _ (List.mem_of_getElem? (i := 226) rfl : _ ∈ tables_1_1)) (by rfl)
set_option maxRecDepth 4000 in
theorem u227 : (Jvm.Cond.methodLink "java/util/Arrays" (86 : Nat) ({ cls := "java/lang/Object", name := "getClass", desc := "()Ljava/lang/Class;" } : Jvm.MethodName)) ∈ uw := uw_of (List.mem_append_left _ (List.mem_of_getElem? (i := 227) rfl : _ ∈ tables_1_1)) (by rfl)
set_option maxRecDepth 4000 in
theorem u228 : (Jvm.Cond.instanceMethod ({ cls := "java/lang/Object", name := "getClass", desc := "()Ljava/lang/Class;" } : Jvm.MethodName)) ∈ uw := uw_of (List.mem_append_left _ (List.mem_of_getElem? (i := 228) rfl : _ ∈ tables_1_1)) (by rfl)
set_option maxRecDepth 4000 in
theorem u229 : (Jvm.Cond.sameMethod "java/lang/Object" "java/lang/Object" "getClass" "()Ljava/lang/Class;") ∈ uw := uw_of (List.mem_append_left _ (List.mem_of_getElem? (i := 229) rfl : _ ∈ tables_1_1)) (by rfl)
set_option maxRecDepth 4000 in
theorem u230 : (Jvm.Cond.selects "WeddingRegister" ({ cls := "java/lang/Object", name := "getClass", desc := "()Ljava/lang/Class;" } : Jvm.MethodName) ({ cls := "java/lang/Object", name := "getClass", desc := "()Ljava/lang/Class;" } : Jvm.MethodName)) ∈ uw := uw_of (List.mem_append_left _ (List.mem_of_getElem? (i := 230) rfl : _ ∈ tables_1_1)) (by rfl)
set_option maxRecDepth 4000 in
theorem u231 : (Jvm.Cond.selects "WeddingRegister$Calendar" ({ cls := "java/lang/Object", name := "getClass", desc := "()Ljava/lang/Class;" } : Jvm.MethodName) ({ cls := "java/lang/Object", name := "getClass", desc := "()Ljava/lang/Class;" } : Jvm.MethodName)) ∈ uw := uw_of (List.mem_append_left _ (List.mem_of_getElem? (i := 231) rfl : _ ∈ tables_1_1)) (by rfl)
set_option maxRecDepth 4000 in
theorem u232 : (Jvm.Cond.selects "WeddingRegister$Correction" ({ cls := "java/lang/Object", name := "getClass", desc := "()Ljava/lang/Class;" } : Jvm.MethodName) ({ cls := "java/lang/Object", name := "getClass", desc := "()Ljava/lang/Class;" } : Jvm.MethodName)) ∈ uw := uw_of (List.mem_append_left _ (List.mem_of_getElem? (i := 232) rfl : _ ∈ tables_1_1)) (by rfl)
set_option maxRecDepth 4000 in
theorem u233 : (Jvm.Cond.selects "WeddingRegister$DayPlan" ({ cls := "java/lang/Object", name := "getClass", desc := "()Ljava/lang/Class;" } : Jvm.MethodName) ({ cls := "java/lang/Object", name := "getClass", desc := "()Ljava/lang/Class;" } : Jvm.MethodName)) ∈ uw := uw_of (List.mem_append_left _ (List.mem_of_getElem? (i := 233) rfl : _ ∈ tables_1_1)) (by rfl)
set_option maxRecDepth 4000 in
theorem u234 : (Jvm.Cond.selects "WeddingRegister$Entry" ({ cls := "java/lang/Object", name := "getClass", desc := "()Ljava/lang/Class;" } : Jvm.MethodName) ({ cls := "java/lang/Object", name := "getClass", desc := "()Ljava/lang/Class;" } : Jvm.MethodName)) ∈ uw := uw_of (List.mem_append_left _ (List.mem_of_getElem? (i := 234) rfl : _ ∈ tables_1_1)) (by rfl)
set_option maxRecDepth 4000 in
theorem u235 : (Jvm.Cond.selects "WeddingRegister$Law" ({ cls := "java/lang/Object", name := "getClass", desc := "()Ljava/lang/Class;" } : Jvm.MethodName) ({ cls := "java/lang/Object", name := "getClass", desc := "()Ljava/lang/Class;" } : Jvm.MethodName)) ∈ uw := uw_of (List.mem_append_left _ (List.mem_of_getElem? (i := 235) rfl : _ ∈ tables_1_1)) (by rfl)
set_option maxRecDepth 4000 in
theorem u236 : (Jvm.Cond.selects "WeddingRegister$LawBook" ({ cls := "java/lang/Object", name := "getClass", desc := "()Ljava/lang/Class;" } : Jvm.MethodName) ({ cls := "java/lang/Object", name := "getClass", desc := "()Ljava/lang/Class;" } : Jvm.MethodName)) ∈ uw := uw_of (List.mem_append_left _ (List.mem_of_getElem? (i := 236) rfl : _ ∈ tables_1_1)) (by rfl)
set_option maxRecDepth 4000 in
theorem u237 : (Jvm.Cond.selects "WeddingRegister$Notice" ({ cls := "java/lang/Object", name := "getClass", desc := "()Ljava/lang/Class;" } : Jvm.MethodName) ({ cls := "java/lang/Object", name := "getClass", desc := "()Ljava/lang/Class;" } : Jvm.MethodName)) ∈ uw := uw_of (List.mem_append_left _ (List.mem_of_getElem? (i := 237) rfl : _ ∈ tables_1_1)) (by rfl)
set_option maxRecDepth 4000 in
theorem u238 : (Jvm.Cond.selects "WeddingRegister$Objection" ({ cls := "java/lang/Object", name := "getClass", desc := "()Ljava/lang/Class;" } : Jvm.MethodName) ({ cls := "java/lang/Object", name := "getClass", desc := "()Ljava/lang/Class;" } : Jvm.MethodName)) ∈ uw := uw_of (List.mem_append_left _ (List.mem_of_getElem? (i := 238) rfl : _ ∈ tables_1_1)) (by rfl)
set_option maxRecDepth 4000 in
theorem u239 : (Jvm.Cond.selects "WeddingRegister$Paper" ({ cls := "java/lang/Object", name := "getClass", desc := "()Ljava/lang/Class;" } : Jvm.MethodName) ({ cls := "java/lang/Object", name := "getClass", desc := "()Ljava/lang/Class;" } : Jvm.MethodName)) ∈ uw := uw_of (List.mem_append_left _ (List.mem_of_getElem? (i := 239) rfl : _ ∈ tables_1_1)) (by rfl)
set_option maxRecDepth 4000 in
theorem u240 : (Jvm.Cond.selects "WeddingRegister$Person" ({ cls := "java/lang/Object", name := "getClass", desc := "()Ljava/lang/Class;" } : Jvm.MethodName) ({ cls := "java/lang/Object", name := "getClass", desc := "()Ljava/lang/Class;" } : Jvm.MethodName)) ∈ uw := uw_of (List.mem_append_right _ (List.mem_append_left _ (List.mem_of_getElem? (i := 0) rfl : _ ∈ tables_1_2))) (by rfl)
set_option maxRecDepth 4000 in
theorem u241 : (Jvm.Cond.selects "WeddingRegisterModel" ({ cls := "java/lang/Object", name := "getClass", desc := "()Ljava/lang/Class;" } : Jvm.MethodName) ({ cls := "java/lang/Object", name := "getClass", desc := "()Ljava/lang/Class;" } : Jvm.MethodName)) ∈ uw := uw_of (List.mem_append_right _ (List.mem_append_left _ (List.mem_of_getElem? (i := 1) rfl : _ ∈ tables_1_2))) (by rfl)
set_option maxRecDepth 4000 in
theorem u242 : (Jvm.Cond.selects "java/util/ArrayList" ({ cls := "java/lang/Object", name := "getClass", desc := "()Ljava/lang/Class;" } : Jvm.MethodName) ({ cls := "java/lang/Object", name := "getClass", desc := "()Ljava/lang/Class;" } : Jvm.MethodName)) ∈ uw := uw_of (List.mem_append_right _ (List.mem_append_left _ (List.mem_of_getElem? (i := 2) rfl : _ ∈ tables_1_2))) (by rfl)
set_option maxRecDepth 4000 in
theorem u243 : (Jvm.Cond.native ({ cls := "java/lang/Object", name := "getClass", desc := "()Ljava/lang/Class;" } : Jvm.MethodName)) ∈ uw := uw_of (List.mem_append_right _ (List.mem_append_left _ (List.mem_of_getElem? (i := 3) rfl : _ ∈ tables_1_2))) (by rfl)
set_option maxRecDepth 4000 in
theorem u244 : (Jvm.Cond.methodLink "java/util/Arrays" (300 : Nat) ({ cls := "java/util/Arrays", name := "copyOf", desc := "([Ljava/lang/Object;ILjava/lang/Class;)[Ljava/lang/Object;" } : Jvm.MethodName)) ∈ uw := uw_of (List.mem_append_right _ (List.mem_append_left _ (List.mem_of_getElem? (i := 4) rfl : _ ∈ tables_1_2))) (by rfl)
set_option maxRecDepth 4000 in
theorem u245 : (Jvm.Cond.static ({ cls := "java/util/Arrays", name := "copyOf", desc := "([Ljava/lang/Object;ILjava/lang/Class;)[Ljava/lang/Object;" } : Jvm.MethodName)) ∈ uw := uw_of (List.mem_append_right _ (List.mem_append_left _ (List.mem_of_getElem? (i := 5) rfl : _ ∈ tables_1_2))) (by rfl)
set_option maxRecDepth 4000 in
theorem u246 : (Jvm.Cond.code ({ cls := "java/util/Arrays", name := "copyOf", desc := "([Ljava/lang/Object;ILjava/lang/Class;)[Ljava/lang/Object;" } : Jvm.MethodName) prog_23_method_120_code (4 : Nat) (Option.some (Jvm.ClassFile.FieldType.array (Jvm.ClassFile.FieldType.object "java/lang/Object")))) ∈ uw := uw_of (List.mem_append_right _ (List.mem_append_left _ (List.mem_of_getElem? (i := 6) rfl : _ ∈ tables_1_2))) (by rfl)
set_option maxRecDepth 4000 in
theorem u247 : (Jvm.Cond.classLink "java/util/Arrays" (110 : Nat) "[Ljava/lang/Object;") ∈ uw := uw_of (List.mem_append_right _ (List.mem_append_left _ (List.mem_of_getElem? (i := 7) rfl : _ ∈ tables_1_2))) (by rfl)
set_option maxRecDepth 4000 in
theorem u248 : (Jvm.Cond.arrayOver (Jvm.ClassFile.FieldType.object "java/lang/Object")) ∈ lw_tbl := List.mem_append_right _ (List.mem_append_right _ (List.mem_append_left _ (List.mem_of_getElem? (i := 8) rfl : _ ∈ tables_1_2)))
set_option maxRecDepth 4000 in
theorem u249 : (Jvm.Cond.classLink "java/util/Arrays" (2 : Nat) "java/lang/Object") ∈ uw := uw_of (List.mem_append_right _ (List.mem_append_left _ (List.mem_of_getElem? (i := 9) rfl : _ ∈ tables_1_2))) (by rfl)
set_option maxRecDepth 4000 in
theorem u250 : (Jvm.Cond.methodLink "java/util/Arrays" (304 : Nat) ({ cls := "java/lang/Math", name := "min", desc := "(II)I" } : Jvm.MethodName)) ∈ uw := uw_of (List.mem_append_right _ (List.mem_append_left _ (List.mem_of_getElem? (i := 10) rfl : _ ∈ tables_1_2))) (by rfl)
set_option maxRecDepth 4000 in
theorem u251 : (Jvm.Cond.static ({ cls := "java/lang/Math", name := "min", desc := "(II)I" } : Jvm.MethodName)) ∈ uw := uw_of (List.mem_append_right _ (List.mem_append_left _ (List.mem_of_getElem? (i := 11) rfl : _ ∈ tables_1_2))) (by rfl)
set_option maxRecDepth 4000 in
theorem u252 : (Jvm.Cond.code ({ cls := "java/lang/Math", name := "min", desc := "(II)I" } : Jvm.MethodName) prog_18_method_69_code (2 : Nat) (Option.some Jvm.ClassFile.FieldType.int)) ∈ uw := uw_of (List.mem_append_right _ (List.mem_append_left _ (List.mem_of_getElem? (i := 12) rfl : _ ∈ tables_1_2))) (by rfl)
set_option maxRecDepth 4000 in
theorem u253 : (Jvm.Cond.methodLink "java/util/Arrays" (150 : Nat) ({ cls := "java/lang/System", name := "arraycopy", desc := "(Ljava/lang/Object;ILjava/lang/Object;II)V" } : Jvm.MethodName)) ∈ uw := uw_of (List.mem_append_right _ (List.mem_append_left _ (List.mem_of_getElem? (i := 13) rfl : _ ∈ tables_1_2))) (by rfl)
set_option maxRecDepth 4000 in
theorem u254 : (Jvm.Cond.static ({ cls := "java/lang/System", name := "arraycopy", desc := "(Ljava/lang/Object;ILjava/lang/Object;II)V" } : Jvm.MethodName)) ∈ uw := uw_of (List.mem_append_right _ (List.mem_append_left _ (List.mem_of_getElem? (i := 14) rfl : _ ∈ tables_1_2))) (by rfl)
set_option maxRecDepth 4000 in
theorem u255 : (Jvm.Cond.native ({ cls := "java/lang/System", name := "arraycopy", desc := "(Ljava/lang/Object;ILjava/lang/Object;II)V" } : Jvm.MethodName)) ∈ uw := uw_of (List.mem_append_right _ (List.mem_append_left _ (List.mem_of_getElem? (i := 15) rfl : _ ∈ tables_1_2))) (by rfl)
set_option maxRecDepth 4000 in
theorem u256 : (Jvm.Cond.methodLink "java/util/ArrayList" (79 : Nat) ({ cls := "java/lang/Math", name := "max", desc := "(II)I" } : Jvm.MethodName)) ∈ uw := uw_of (List.mem_append_right _ (List.mem_append_left _ (List.mem_of_getElem? (i := 16) rfl : _ ∈ tables_1_2))) (by rfl)
set_option maxRecDepth 4000 in
theorem u257 : (Jvm.Cond.classLink "java/util/ArrayList" (7 : Nat) "java/lang/Object") ∈ uw := uw_of (List.mem_append_right _ (List.mem_append_left _ (List.mem_of_getElem? (i := 17) rfl : _ ∈ tables_1_2))) (by rfl)
set_option maxRecDepth 4000 in
theorem u258 : (Jvm.Cond.methodLink "WeddingRegisterLaw" (18 : Nat) ({ cls := "WeddingRegister", name := "person", desc := "(IIII)I" } : Jvm.MethodName)) ∈ uw := uw_of (List.mem_append_right _ (List.mem_append_left _ (List.mem_of_getElem? (i := 18) rfl : _ ∈ tables_1_2))) (by rfl)
set_option maxRecDepth 4000 in
theorem u259 : (Jvm.Cond.instanceMethod ({ cls := "WeddingRegister", name := "person", desc := "(IIII)I" } : Jvm.MethodName)) ∈ uw := uw_of (List.mem_append_right _ (List.mem_append_left _ (List.mem_of_getElem? (i := 19) rfl : _ ∈ tables_1_2))) (by rfl)
set_option maxRecDepth 4000 in
theorem u260 : (Jvm.Cond.selects "WeddingRegister" ({ cls := "WeddingRegister", name := "person", desc := "(IIII)I" } : Jvm.MethodName) ({ cls := "WeddingRegister", name := "person", desc := "(IIII)I" } : Jvm.MethodName)) ∈ uw := uw_of (List.mem_append_right _ (List.mem_append_left _ (List.mem_of_getElem? (i := 20) rfl : _ ∈ tables_1_2))) (by rfl)
set_option maxRecDepth 4000 in
theorem u261 : (Jvm.Cond.code ({ cls := "WeddingRegister", name := "person", desc := "(IIII)I" } : Jvm.MethodName) prog_1_method_3_code (6 : Nat) (Option.some Jvm.ClassFile.FieldType.int)) ∈ uw := uw_of (List.mem_append_right _ (List.mem_append_left _ (List.mem_of_getElem? (i := 21) rfl : _ ∈ tables_1_2))) (by rfl)
set_option maxRecDepth 4000 in
theorem u262 : (Jvm.Cond.methodLink "WeddingRegister" (84 : Nat) ({ cls := "WeddingRegister$Person", name := "canBe", desc := "(I)Z" } : Jvm.MethodName)) ∈ uw := uw_of (List.mem_append_right _ (List.mem_append_left _ (List.mem_of_getElem? (i := 22) rfl : _ ∈ tables_1_2))) (by rfl)
set_option maxRecDepth 4000 in
theorem u263 : (Jvm.Cond.static ({ cls := "WeddingRegister$Person", name := "canBe", desc := "(I)Z" } : Jvm.MethodName)) ∈ uw := uw_of (List.mem_append_right _ (List.mem_append_left _ (List.mem_of_getElem? (i := 23) rfl : _ ∈ tables_1_2))) (by rfl)
set_option maxRecDepth 4000 in
theorem u264 : (Jvm.Cond.code ({ cls := "WeddingRegister$Person", name := "canBe", desc := "(I)Z" } : Jvm.MethodName) prog_11_method_2_code (1 : Nat) (Option.some Jvm.ClassFile.FieldType.boolean)) ∈ uw := uw_of (List.mem_append_right _ (List.mem_append_left _ (List.mem_of_getElem? (i := 24) rfl : _ ∈ tables_1_2))) (by rfl)
set_option maxRecDepth 4000 in
theorem u265 : (Jvm.Cond.constant "WeddingRegister$Person" (15 : Nat) (1000000 : Int32)) ∈ uw := uw_of (List.mem_append_right _ (List.mem_append_left _ (List.mem_of_getElem? (i := 25) rfl : _ ∈ tables_1_2))) (by rfl)
set_option maxRecDepth 4000 in
theorem u266 : (Jvm.Cond.methodLink "WeddingRegister" (88 : Nat) ({ cls := "java/util/ArrayList", name := "size", desc := "()I" } : Jvm.MethodName)) ∈ uw := uw_of (List.mem_append_right _ (List.mem_append_left _ (List.mem_of_getElem? (i := 26) rfl : _ ∈ tables_1_2))) (by rfl)
set_option maxRecDepth 4000 in
theorem u267 : (Jvm.Cond.methodLink "WeddingRegister" (92 : Nat) ({ cls := "WeddingRegister", name := "canBeParents", desc := "(II)Z" } : Jvm.MethodName)) ∈ uw := uw_of (List.mem_append_right _ (List.mem_append_left _ (List.mem_of_getElem? (i := 27) rfl : _ ∈ tables_1_2))) (by rfl)
set_option maxRecDepth 4000 in
theorem u269 : (Jvm.Cond.instanceMethod ({ cls := "WeddingRegister", name := "canBeParents", desc := "(II)Z" } : Jvm.MethodName)) ∈ uw := uw_of (List.mem_append_right _ (List.mem_append_left _ (List.mem_of_getElem? (i := 29) rfl : _ ∈ tables_1_2))) (by rfl)
set_option maxRecDepth 4000 in
theorem u270 : (Jvm.Cond.code ({ cls := "WeddingRegister", name := "canBeParents", desc := "(II)Z" } : Jvm.MethodName) prog_1_method_32_code (5 : Nat) (Option.some Jvm.ClassFile.FieldType.boolean)) ∈ uw := uw_of (List.mem_append_right _ (List.mem_append_left _ (List.mem_of_getElem? (i := 30) rfl : _ ∈ tables_1_2))) (by rfl)
set_option maxRecDepth 4000 in
theorem u271 : (Jvm.Cond.methodLink "WeddingRegister" (95 : Nat) ({ cls := "WeddingRegister", name := "personAt", desc := "(I)LWeddingRegister$Person;" } : Jvm.MethodName)) ∈ uw := uw_of (List.mem_append_right _ (List.mem_append_left _ (List.mem_of_getElem? (i := 31) rfl : _ ∈ tables_1_2))) (by rfl)
set_option maxRecDepth 4000 in
theorem u273 : (Jvm.Cond.instanceMethod ({ cls := "WeddingRegister", name := "personAt", desc := "(I)LWeddingRegister$Person;" } : Jvm.MethodName)) ∈ uw := uw_of (List.mem_append_right _ (List.mem_append_left _ (List.mem_of_getElem? (i := 33) rfl : _ ∈ tables_1_2))) (by rfl)
set_option maxRecDepth 4000 in
theorem u274 : (Jvm.Cond.code ({ cls := "WeddingRegister", name := "personAt", desc := "(I)LWeddingRegister$Person;" } : Jvm.MethodName) prog_1_method_29_code (2 : Nat) (Option.some (Jvm.ClassFile.FieldType.object "WeddingRegister$Person"))) ∈ uw := uw_of (List.mem_append_right _ (List.mem_append_left _ (List.mem_of_getElem? (i := 34) rfl : _ ∈ tables_1_2))) (by rfl)
set_option maxRecDepth 4000 in
theorem u275 : (Jvm.Cond.methodLink "WeddingRegister" (176 : Nat) ({ cls := "java/util/ArrayList", name := "get", desc := "(I)Ljava/lang/Object;" } : Jvm.MethodName)) ∈ uw := uw_of (List.mem_append_right _ (List.mem_append_left _ (List.mem_of_getElem? (i := 35) rfl : _ ∈ tables_1_2))) (by rfl)
set_option maxRecDepth 4000 in
theorem u276 : (Jvm.Cond.instanceMethod ({ cls := "java/util/ArrayList", name := "get", desc := "(I)Ljava/lang/Object;" } : Jvm.MethodName)) ∈ uw := uw_of (List.mem_append_right _ (List.mem_append_left _ (List.mem_of_getElem? (i := 36) rfl : _ ∈ tables_1_2))) (by rfl)
set_option maxRecDepth 4000 in
theorem u277 : (Jvm.Cond.selects "java/util/ArrayList" ({ cls := "java/util/ArrayList", name := "get", desc := "(I)Ljava/lang/Object;" } : Jvm.MethodName) ({ cls := "java/util/ArrayList", name := "get", desc := "(I)Ljava/lang/Object;" } : Jvm.MethodName)) ∈ uw := uw_of (List.mem_append_right _ (List.mem_append_left _ (List.mem_of_getElem? (i := 37) rfl : _ ∈ tables_1_2))) (by rfl)
set_option maxRecDepth 4000 in
theorem u278 : (Jvm.Cond.code ({ cls := "java/util/ArrayList", name := "get", desc := "(I)Ljava/lang/Object;" } : Jvm.MethodName) prog_22_method_20_code (2 : Nat) (Option.some (Jvm.ClassFile.FieldType.object "java/lang/Object"))) ∈ uw := uw_of (List.mem_append_right _ (List.mem_append_left _ (List.mem_of_getElem? (i := 38) rfl : _ ∈ tables_1_2))) (by rfl)
set_option maxRecDepth 4000 in
theorem u279 : (Jvm.Cond.methodLink "java/util/ArrayList" (118 : Nat) ({ cls := "java/util/Objects", name := "checkIndex", desc := "(II)I" } : Jvm.MethodName)) ∈ uw := uw_of (List.mem_append_right _ (List.mem_append_left _ (List.mem_of_getElem? (i := 39) rfl : _ ∈ tables_1_2))) (by rfl)
set_option maxRecDepth 4000 in
theorem u280 : (Jvm.Cond.static ({ cls := "java/util/Objects", name := "checkIndex", desc := "(II)I" } : Jvm.MethodName)) ∈ uw := uw_of (List.mem_append_right _ (List.mem_append_left _ (List.mem_of_getElem? (i := 40) rfl : _ ∈ tables_1_2))) (by rfl)
set_option maxRecDepth 4000 in
theorem u281 : (Jvm.Cond.code ({ cls := "java/util/Objects", name := "checkIndex", desc := "(II)I" } : Jvm.MethodName) prog_26_method_17_code (2 : Nat) (Option.some Jvm.ClassFile.FieldType.int)) ∈ uw := uw_of (List.mem_append_right _ (List.mem_append_left _ (List.mem_of_getElem? (i := 41) rfl : _ ∈ tables_1_2))) (by rfl)
set_option maxRecDepth 4000 in
theorem u282 : (Jvm.Cond.methodLink "java/util/Objects" (105 : Nat) ({ cls := "jdk/internal/util/Preconditions", name := "checkIndex", desc := "(IILjava/util/function/BiFunction;)I" } : Jvm.MethodName)) ∈ uw := uw_of (List.mem_append_right _ (List.mem_append_left _ (List.mem_of_getElem? (i := 42) rfl : _ ∈ tables_1_2))) (by rfl)
set_option maxRecDepth 4000 in
theorem u283 : (Jvm.Cond.static ({ cls := "jdk/internal/util/Preconditions", name := "checkIndex", desc := "(IILjava/util/function/BiFunction;)I" } : Jvm.MethodName)) ∈ uw := uw_of (List.mem_append_right _ (List.mem_append_left _ (List.mem_of_getElem? (i := 43) rfl : _ ∈ tables_1_2))) (by rfl)
set_option maxRecDepth 4000 in
theorem u284 : (Jvm.Cond.code ({ cls := "jdk/internal/util/Preconditions", name := "checkIndex", desc := "(IILjava/util/function/BiFunction;)I" } : Jvm.MethodName) prog_30_method_11_code (3 : Nat) (Option.some Jvm.ClassFile.FieldType.int)) ∈ uw := uw_of (List.mem_append_right _ (List.mem_append_left _ (List.mem_of_getElem? (i := 44) rfl : _ ∈ tables_1_2))) (by rfl)
set_option maxRecDepth 4000 in
theorem u285 : (Jvm.Cond.methodLink "java/util/ArrayList" (123 : Nat) ({ cls := "java/util/ArrayList", name := "elementData", desc := "(I)Ljava/lang/Object;" } : Jvm.MethodName)) ∈ uw := uw_of (List.mem_append_right _ (List.mem_append_left _ (List.mem_of_getElem? (i := 45) rfl : _ ∈ tables_1_2))) (by rfl)
set_option maxRecDepth 4000 in
theorem u286 : (Jvm.Cond.instanceMethod ({ cls := "java/util/ArrayList", name := "elementData", desc := "(I)Ljava/lang/Object;" } : Jvm.MethodName)) ∈ uw := uw_of (List.mem_append_right _ (List.mem_append_left _ (List.mem_of_getElem? (i := 46) rfl : _ ∈ tables_1_2))) (by rfl)
set_option maxRecDepth 4000 in
theorem u287 : (Jvm.Cond.selects "java/util/ArrayList" ({ cls := "java/util/ArrayList", name := "elementData", desc := "(I)Ljava/lang/Object;" } : Jvm.MethodName) ({ cls := "java/util/ArrayList", name := "elementData", desc := "(I)Ljava/lang/Object;" } : Jvm.MethodName)) ∈ uw := uw_of (List.mem_append_right _ (List.mem_append_left _ (List.mem_of_getElem? (i := 47) rfl : _ ∈ tables_1_2))) (by rfl)
set_option maxRecDepth 4000 in
theorem u288 : (Jvm.Cond.code ({ cls := "java/util/ArrayList", name := "elementData", desc := "(I)Ljava/lang/Object;" } : Jvm.MethodName) prog_22_method_18_code (2 : Nat) (Option.some (Jvm.ClassFile.FieldType.object "java/lang/Object"))) ∈ uw := uw_of (List.mem_append_right _ (List.mem_append_left _ (List.mem_of_getElem? (i := 48) rfl : _ ∈ tables_1_2))) (by rfl)
set_option maxRecDepth 4000 in
theorem u289 : (Jvm.Cond.classLink "WeddingRegister" (85 : Nat) "WeddingRegister$Person") ∈ uw := uw_of (List.mem_append_right _ (List.mem_append_left _ (List.mem_of_getElem? (i := 49) rfl : _ ∈ tables_1_2))) (by rfl)
set_option maxRecDepth 4000 in
theorem u290 : (Jvm.Cond.instantiable "WeddingRegister$Person" (9 : Nat)) ∈ uw := uw_of (List.mem_append_right _ (List.mem_append_left _ (List.mem_of_getElem? (i := 50) rfl : _ ∈ tables_1_2))) (by rfl)
set_option maxRecDepth 4000 in
theorem u291 : (Jvm.Cond.methodLink "WeddingRegister" (99 : Nat) ({ cls := "WeddingRegister$Person", name := "<init>", desc := "(IIILWeddingRegister$Person;LWeddingRegister$Person;)V" } : Jvm.MethodName)) ∈ uw := uw_of (List.mem_append_right _ (List.mem_append_left _ (List.mem_of_getElem? (i := 51) rfl : _ ∈ tables_1_2))) (by rfl)
set_option maxRecDepth 4000 in
theorem u292 : (Jvm.Cond.instanceMethod ({ cls := "WeddingRegister$Person", name := "<init>", desc := "(IIILWeddingRegister$Person;LWeddingRegister$Person;)V" } : Jvm.MethodName)) ∈ uw := uw_of (List.mem_append_right _ (List.mem_append_left _ (List.mem_of_getElem? (i := 52) rfl : _ ∈ tables_1_2))) (by rfl)
set_option maxRecDepth 4000 in
theorem u293 : (Jvm.Cond.code ({ cls := "WeddingRegister$Person", name := "<init>", desc := "(IIILWeddingRegister$Person;LWeddingRegister$Person;)V" } : Jvm.MethodName) prog_11_method_1_code (6 : Nat) (Option.none : Option Jvm.ClassFile.FieldType)) ∈ uw := uw_of (List.mem_append_right _ (List.mem_append_left _ (List.mem_of_getElem? (i := 53) rfl : _ ∈ tables_1_2))) (by rfl)
set_option maxRecDepth 4000 in
theorem u294 : (Jvm.Cond.methodLink "WeddingRegister$Person" (3 : Nat) ({ cls := "java/lang/Object", name := "<init>", desc := "()V" } : Jvm.MethodName)) ∈ uw := uw_of (List.mem_append_right _ (List.mem_append_left _ (List.mem_of_getElem? (i := 54) rfl : _ ∈ tables_1_2))) (by rfl)
set_option maxRecDepth 4000 in
theorem u295 : (Jvm.Cond.classLink "WeddingRegister$Person" (35 : Nat) "java/util/ArrayList") ∈ uw := uw_of (List.mem_append_right _ (List.mem_append_left _ (List.mem_of_getElem? (i := 55) rfl : _ ∈ tables_1_2))) (by rfl)
set_option maxRecDepth 4000 in
theorem u296 : (Jvm.Cond.methodLink "WeddingRegister$Person" (37 : Nat) ({ cls := "java/util/ArrayList", name := "<init>", desc := "()V" } : Jvm.MethodName)) ∈ uw := uw_of (List.mem_append_right _ (List.mem_append_left _ (List.mem_of_getElem? (i := 56) rfl : _ ∈ tables_1_2))) (by rfl)
set_option maxRecDepth 4000 in
theorem u297 : (Jvm.Cond.fieldLink "WeddingRegister$Person" (9 : Nat) "WeddingRegister$Person" "number" "I") ∈ uw := uw_of (List.mem_append_right _ (List.mem_append_left _ (List.mem_of_getElem? (i := 57) rfl : _ ∈ tables_1_2))) (by rfl)
set_option maxRecDepth 4000 in
theorem u298 : (Jvm.Cond.fieldLink "WeddingRegister$Entry" (55 : Nat) "WeddingRegister$Person" "number" "I") ∈ uw := uw_of (List.mem_append_right _ (List.mem_append_left _ (List.mem_of_getElem? (i := 58) rfl : _ ∈ tables_1_2))) (by rfl)
set_option maxRecDepth 4000 in
theorem u299 : (Jvm.Cond.fieldLink "WeddingRegister" (257 : Nat) "WeddingRegister$Person" "number" "I") ∈ uw := uw_of (List.mem_append_right _ (List.mem_append_left _ (List.mem_of_getElem? (i := 59) rfl : _ ∈ tables_1_2))) (by rfl)
set_option maxRecDepth 4000 in
theorem u300 : (Jvm.Cond.fieldLink "WeddingRegister$Person" (16 : Nat) "WeddingRegister$Person" "land" "I") ∈ uw := uw_of (List.mem_append_right _ (List.mem_append_left _ (List.mem_of_getElem? (i := 60) rfl : _ ∈ tables_1_2))) (by rfl)
set_option maxRecDepth 4000 in
theorem u301 : (Jvm.Cond.fieldLink "WeddingRegister" (294 : Nat) "WeddingRegister$Person" "land" "I") ∈ uw := uw_of (List.mem_append_right _ (List.mem_append_left _ (List.mem_of_getElem? (i := 61) rfl : _ ∈ tables_1_2))) (by rfl)
set_option maxRecDepth 4000 in
theorem u302 : (Jvm.Cond.fieldLink "WeddingRegister$Person" (19 : Nat) "WeddingRegister$Person" "tongues" "I") ∈ uw := uw_of (List.mem_append_right _ (List.mem_append_left _ (List.mem_of_getElem? (i := 62) rfl : _ ∈ tables_1_2))) (by rfl)
set_option maxRecDepth 4000 in
theorem u303 : (Jvm.Cond.fieldLink "WeddingRegister" (357 : Nat) "WeddingRegister$Person" "tongues" "I") ∈ uw := uw_of (List.mem_append_right _ (List.mem_append_left _ (List.mem_of_getElem? (i := 63) rfl : _ ∈ tables_1_2))) (by rfl)
set_option maxRecDepth 4000 in
theorem u304 : (Jvm.Cond.fieldLink "WeddingRegister$Entry" (25 : Nat) "WeddingRegister$Person" "name" "I") ∈ uw := uw_of (List.mem_append_right _ (List.mem_append_left _ (List.mem_of_getElem? (i := 64) rfl : _ ∈ tables_1_2))) (by rfl)
set_option maxRecDepth 4000 in
theorem u305 : (Jvm.Cond.fieldLink "WeddingRegister$Person" (22 : Nat) "WeddingRegister$Person" "name" "I") ∈ uw := uw_of (List.mem_append_right _ (List.mem_append_left _ (List.mem_of_getElem? (i := 65) rfl : _ ∈ tables_1_2))) (by rfl)
set_option maxRecDepth 4000 in
theorem u306 : (Jvm.Cond.fieldLink "WeddingRegister$Person" (25 : Nat) "WeddingRegister$Person" "born" "I") ∈ uw := uw_of (List.mem_append_right _ (List.mem_append_left _ (List.mem_of_getElem? (i := 66) rfl : _ ∈ tables_1_2))) (by rfl)
set_option maxRecDepth 4000 in
theorem u307 : (Jvm.Cond.fieldLink "WeddingRegister" (311 : Nat) "WeddingRegister$Person" "born" "I") ∈ uw := uw_of (List.mem_append_right _ (List.mem_append_left _ (List.mem_of_getElem? (i := 67) rfl : _ ∈ tables_1_2))) (by rfl)
set_option maxRecDepth 4000 in
theorem u308 : (Jvm.Cond.fieldLink "WeddingRegister$Person" (28 : Nat) "WeddingRegister$Person" "father" "LWeddingRegister$Person;") ∈ uw := uw_of (List.mem_append_right _ (List.mem_append_left _ (List.mem_of_getElem? (i := 68) rfl : _ ∈ tables_1_2))) (by rfl)
set_option maxRecDepth 4000 in
theorem u309 : (Jvm.Cond.fieldLink "WeddingRegister" (279 : Nat) "WeddingRegister$Person" "father" "LWeddingRegister$Person;") ∈ uw := uw_of (List.mem_append_right _ (List.mem_append_left _ (List.mem_of_getElem? (i := 69) rfl : _ ∈ tables_1_2))) (by rfl)
set_option maxRecDepth 4000 in
theorem u310 : (Jvm.Cond.fieldLink "WeddingRegister$Person" (32 : Nat) "WeddingRegister$Person" "mother" "LWeddingRegister$Person;") ∈ uw := uw_of (List.mem_append_right _ (List.mem_append_left _ (List.mem_of_getElem? (i := 70) rfl : _ ∈ tables_1_2))) (by rfl)
set_option maxRecDepth 4000 in
theorem u311 : (Jvm.Cond.fieldLink "WeddingRegister" (285 : Nat) "WeddingRegister$Person" "mother" "LWeddingRegister$Person;") ∈ uw := uw_of (List.mem_append_right _ (List.mem_append_left _ (List.mem_of_getElem? (i := 71) rfl : _ ∈ tables_1_2))) (by rfl)
set_option maxRecDepth 4000 in
theorem u312 : (Jvm.Cond.fieldLink "WeddingRegister$Person" (38 : Nat) "WeddingRegister$Person" "papers" "Ljava/util/ArrayList;") ∈ uw := uw_of (List.mem_append_right _ (List.mem_append_left _ (List.mem_of_getElem? (i := 72) rfl : _ ∈ tables_1_2))) (by rfl)
set_option maxRecDepth 4000 in
theorem u313 : (Jvm.Cond.fieldLink "WeddingRegister" (106 : Nat) "WeddingRegister$Person" "papers" "Ljava/util/ArrayList;") ∈ uw := uw_of (List.mem_append_right _ (List.mem_append_left _ (List.mem_of_getElem? (i := 73) rfl : _ ∈ tables_1_2))) (by rfl)
set_option maxRecDepth 4000 in
theorem u314 : (Jvm.Cond.fieldLink "WeddingRegister$Person" (42 : Nat) "WeddingRegister$Person" "spouse" "LWeddingRegister$Person;") ∈ uw := uw_of (List.mem_append_right _ (List.mem_append_left _ (List.mem_of_getElem? (i := 74) rfl : _ ∈ tables_1_2))) (by rfl)
set_option maxRecDepth 4000 in
theorem u315 : (Jvm.Cond.fieldLink "WeddingRegister" (135 : Nat) "WeddingRegister$Person" "spouse" "LWeddingRegister$Person;") ∈ uw := uw_of (List.mem_append_right _ (List.mem_append_left _ (List.mem_of_getElem? (i := 75) rfl : _ ∈ tables_1_2))) (by rfl)
set_option maxRecDepth 4000 in
theorem u316 : (Jvm.Cond.laysFinal "WeddingRegister$Person" "WeddingRegister$Person" "number" "I") ∈ uw := uw_of (List.mem_append_right _ (List.mem_append_left _ (List.mem_of_getElem? (i := 76) rfl : _ ∈ tables_1_2))) (by rfl)
set_option maxRecDepth 4000 in
theorem u318 : (Jvm.Cond.laysFinal "WeddingRegister$Person" "WeddingRegister$Person" "land" "I") ∈ uw := uw_of (List.mem_append_right _ (List.mem_append_left _ (List.mem_of_getElem? (i := 78) rfl : _ ∈ tables_1_2))) (by rfl)
set_option maxRecDepth 4000 in
theorem u320 : (Jvm.Cond.laysFinal "WeddingRegister$Person" "WeddingRegister$Person" "tongues" "I") ∈ uw := uw_of (List.mem_append_right _ (List.mem_append_left _ (List.mem_of_getElem? (i := 80) rfl : _ ∈ tables_1_2))) (by rfl)
set_option maxRecDepth 4000 in
theorem u322 : (Jvm.Cond.laysFinal "WeddingRegister$Person" "WeddingRegister$Person" "name" "I") ∈ uw := uw_of (List.mem_append_right _ (List.mem_append_left _ (List.mem_of_getElem? (i := 82) rfl : _ ∈ tables_1_2))) (by rfl)
set_option maxRecDepth 4000 in
theorem u324 : (Jvm.Cond.laysFinal "WeddingRegister$Person" "WeddingRegister$Person" "born" "I") ∈ uw := uw_of (List.mem_append_right _ (List.mem_append_left _ (List.mem_of_getElem? (i := 84) rfl : _ ∈ tables_1_2))) (by rfl)
set_option maxRecDepth 4000 in
theorem u326 : (Jvm.Cond.laysFinal "WeddingRegister$Person" "WeddingRegister$Person" "father" "LWeddingRegister$Person;") ∈ uw := uw_of (List.mem_append_right _ (List.mem_append_left _ (List.mem_of_getElem? (i := 86) rfl : _ ∈ tables_1_2))) (by rfl)
set_option maxRecDepth 4000 in
theorem u328 : (Jvm.Cond.laysFinal "WeddingRegister$Person" "WeddingRegister$Person" "mother" "LWeddingRegister$Person;") ∈ uw := uw_of (List.mem_append_right _ (List.mem_append_left _ (List.mem_of_getElem? (i := 88) rfl : _ ∈ tables_1_2))) (by rfl)
set_option maxRecDepth 4000 in
theorem u330 : (Jvm.Cond.laysFinal "WeddingRegister$Person" "WeddingRegister$Person" "papers" "Ljava/util/ArrayList;") ∈ uw := uw_of (List.mem_append_right _ (List.mem_append_left _ (List.mem_of_getElem? (i := 90) rfl : _ ∈ tables_1_2))) (by rfl)
set_option maxRecDepth 4000 in
theorem u332 : (Jvm.Cond.lays "WeddingRegister$Person" "WeddingRegister$Person" "spouse" "LWeddingRegister$Person;") ∈ uw := uw_of (List.mem_append_right _ (List.mem_append_left _ (List.mem_of_getElem? (i := 92) rfl : _ ∈ tables_1_2))) (by rfl)
set_option maxRecDepth 4000 in
theorem u335 : (Jvm.Cond.methodLink "WeddingRegister" (102 : Nat) ({ cls := "java/util/ArrayList", name := "add", desc := "(Ljava/lang/Object;)Z" } : Jvm.MethodName)) ∈ uw := uw_of (List.mem_append_right _ (List.mem_append_left _ (List.mem_of_getElem? (i := 95) rfl : _ ∈ tables_1_2))) (by rfl)
set_option maxRecDepth 4000 in
theorem u336 : (Jvm.Cond.methodLink "WeddingRegisterLaw" (23 : Nat) ({ cls := "WeddingRegister", name := "paper", desc := "(III)Z" } : Jvm.MethodName)) ∈ uw := uw_of (List.mem_append_right _ (List.mem_append_left _ (List.mem_of_getElem? (i := 96) rfl : _ ∈ tables_1_2))) (by rfl)
set_option maxRecDepth 4000 in
theorem u337 : (Jvm.Cond.instanceMethod ({ cls := "WeddingRegister", name := "paper", desc := "(III)Z" } : Jvm.MethodName)) ∈ uw := uw_of (List.mem_append_right _ (List.mem_append_left _ (List.mem_of_getElem? (i := 97) rfl : _ ∈ tables_1_2))) (by rfl)
set_option maxRecDepth 4000 in
theorem u338 : (Jvm.Cond.selects "WeddingRegister" ({ cls := "WeddingRegister", name := "paper", desc := "(III)Z" } : Jvm.MethodName) ({ cls := "WeddingRegister", name := "paper", desc := "(III)Z" } : Jvm.MethodName)) ∈ uw := uw_of (List.mem_append_right _ (List.mem_append_left _ (List.mem_of_getElem? (i := 98) rfl : _ ∈ tables_1_2))) (by rfl)
set_option maxRecDepth 4000 in
theorem u339 : (Jvm.Cond.code ({ cls := "WeddingRegister", name := "paper", desc := "(III)Z" } : Jvm.MethodName) prog_1_method_4_code (5 : Nat) (Option.some Jvm.ClassFile.FieldType.boolean)) ∈ uw := uw_of (List.mem_append_right _ (List.mem_append_left _ (List.mem_of_getElem? (i := 99) rfl : _ ∈ tables_1_2))) (by rfl)
set_option maxRecDepth 4000 in
theorem u340 : (Jvm.Cond.classLink "WeddingRegister" (109 : Nat) "WeddingRegister$Paper") ∈ uw := uw_of (List.mem_append_right _ (List.mem_append_left _ (List.mem_of_getElem? (i := 100) rfl : _ ∈ tables_1_2))) (by rfl)
set_option maxRecDepth 4000 in
theorem u341 : (Jvm.Cond.instantiable "WeddingRegister$Paper" (2 : Nat)) ∈ uw := uw_of (List.mem_append_right _ (List.mem_append_left _ (List.mem_of_getElem? (i := 101) rfl : _ ∈ tables_1_2))) (by rfl)
set_option maxRecDepth 4000 in
theorem u342 : (Jvm.Cond.methodLink "WeddingRegister" (111 : Nat) ({ cls := "WeddingRegister$Paper", name := "<init>", desc := "(II)V" } : Jvm.MethodName)) ∈ uw := uw_of (List.mem_append_right _ (List.mem_append_left _ (List.mem_of_getElem? (i := 102) rfl : _ ∈ tables_1_2))) (by rfl)
set_option maxRecDepth 4000 in
theorem u343 : (Jvm.Cond.instanceMethod ({ cls := "WeddingRegister$Paper", name := "<init>", desc := "(II)V" } : Jvm.MethodName)) ∈ uw := uw_of (List.mem_append_right _ (List.mem_append_left _ (List.mem_of_getElem? (i := 103) rfl : _ ∈ tables_1_2))) (by rfl)
set_option maxRecDepth 4000 in
theorem u344 : (Jvm.Cond.code ({ cls := "WeddingRegister$Paper", name := "<init>", desc := "(II)V" } : Jvm.MethodName) prog_10_method_1_code (3 : Nat) (Option.none : Option Jvm.ClassFile.FieldType)) ∈ uw := uw_of (List.mem_append_right _ (List.mem_append_left _ (List.mem_of_getElem? (i := 104) rfl : _ ∈ tables_1_2))) (by rfl)
set_option maxRecDepth 4000 in
theorem u345 : (Jvm.Cond.methodLink "WeddingRegister$Paper" (1 : Nat) ({ cls := "java/lang/Object", name := "<init>", desc := "()V" } : Jvm.MethodName)) ∈ uw := uw_of (List.mem_append_right _ (List.mem_append_left _ (List.mem_of_getElem? (i := 105) rfl : _ ∈ tables_1_2))) (by rfl)
set_option maxRecDepth 4000 in
theorem u346 : (Jvm.Cond.fieldLink "WeddingRegister$Paper" (7 : Nat) "WeddingRegister$Paper" "kind" "I") ∈ uw := uw_of (List.mem_append_right _ (List.mem_append_left _ (List.mem_of_getElem? (i := 106) rfl : _ ∈ tables_1_2))) (by rfl)
set_option maxRecDepth 4000 in
theorem u347 : (Jvm.Cond.fieldLink "WeddingRegister$Person" (55 : Nat) "WeddingRegister$Paper" "kind" "I") ∈ uw := uw_of (List.mem_append_right _ (List.mem_append_left _ (List.mem_of_getElem? (i := 107) rfl : _ ∈ tables_1_2))) (by rfl)
set_option maxRecDepth 4000 in
theorem u348 : (Jvm.Cond.fieldLink "WeddingRegister$Paper" (13 : Nat) "WeddingRegister$Paper" "day" "I") ∈ uw := uw_of (List.mem_append_right _ (List.mem_append_left _ (List.mem_of_getElem? (i := 108) rfl : _ ∈ tables_1_2))) (by rfl)
set_option maxRecDepth 4000 in
theorem u349 : (Jvm.Cond.fieldLink "WeddingRegister$Person" (58 : Nat) "WeddingRegister$Paper" "day" "I") ∈ uw := uw_of (List.mem_append_right _ (List.mem_append_left _ (List.mem_of_getElem? (i := 109) rfl : _ ∈ tables_1_2))) (by rfl)
set_option maxRecDepth 4000 in
theorem u350 : (Jvm.Cond.laysFinal "WeddingRegister$Paper" "WeddingRegister$Paper" "kind" "I") ∈ uw := uw_of (List.mem_append_right _ (List.mem_append_left _ (List.mem_of_getElem? (i := 110) rfl : _ ∈ tables_1_2))) (by rfl)
set_option maxRecDepth 4000 in
theorem u352 : (Jvm.Cond.laysFinal "WeddingRegister$Paper" "WeddingRegister$Paper" "day" "I") ∈ uw := uw_of (List.mem_append_right _ (List.mem_append_left _ (List.mem_of_getElem? (i := 112) rfl : _ ∈ tables_1_2))) (by rfl)
set_option maxRecDepth 4000 in
theorem u355 : (Jvm.Cond.methodLink "WeddingRegisterLaw" (28 : Nat) ({ cls := "WeddingRegister", name := "feast", desc := "(I)Z" } : Jvm.MethodName)) ∈ uw := uw_of (List.mem_append_right _ (List.mem_append_left _ (List.mem_of_getElem? (i := 115) rfl : _ ∈ tables_1_2))) (by rfl)
set_option maxRecDepth 4000 in
theorem u356 : (Jvm.Cond.instanceMethod ({ cls := "WeddingRegister", name := "feast", desc := "(I)Z" } : Jvm.MethodName)) ∈ uw := uw_of (List.mem_append_right _ (List.mem_append_left _ (List.mem_of_getElem? (i := 116) rfl : _ ∈ tables_1_2))) (by rfl)
set_option maxRecDepth 4000 in
theorem u357 : (Jvm.Cond.selects "WeddingRegister" ({ cls := "WeddingRegister", name := "feast", desc := "(I)Z" } : Jvm.MethodName) ({ cls := "WeddingRegister", name := "feast", desc := "(I)Z" } : Jvm.MethodName)) ∈ uw := uw_of (List.mem_append_right _ (List.mem_append_left _ (List.mem_of_getElem? (i := 117) rfl : _ ∈ tables_1_2))) (by rfl)
set_option maxRecDepth 4000 in
theorem u358 : (Jvm.Cond.code ({ cls := "WeddingRegister", name := "feast", desc := "(I)Z" } : Jvm.MethodName) prog_1_method_5_code (2 : Nat) (Option.some Jvm.ClassFile.FieldType.boolean)) ∈ uw := uw_of (List.mem_append_right _ (List.mem_append_left _ (List.mem_of_getElem? (i := 118) rfl : _ ∈ tables_1_2))) (by rfl)
set_option maxRecDepth 4000 in
theorem u359 : (Jvm.Cond.methodLink "WeddingRegister" (114 : Nat) ({ cls := "WeddingRegister$Calendar", name := "isFeast", desc := "(I)Z" } : Jvm.MethodName)) ∈ uw := uw_of (List.mem_append_right _ (List.mem_append_left _ (List.mem_of_getElem? (i := 119) rfl : _ ∈ tables_1_2))) (by rfl)
set_option maxRecDepth 4000 in
theorem u360 : (Jvm.Cond.instanceMethod ({ cls := "WeddingRegister$Calendar", name := "isFeast", desc := "(I)Z" } : Jvm.MethodName)) ∈ uw := uw_of (List.mem_append_right _ (List.mem_append_left _ (List.mem_of_getElem? (i := 120) rfl : _ ∈ tables_1_2))) (by rfl)
set_option maxRecDepth 4000 in
theorem u361 : (Jvm.Cond.selects "WeddingRegister$Calendar" ({ cls := "WeddingRegister$Calendar", name := "isFeast", desc := "(I)Z" } : Jvm.MethodName) ({ cls := "WeddingRegister$Calendar", name := "isFeast", desc := "(I)Z" } : Jvm.MethodName)) ∈ uw := uw_of (List.mem_append_right _ (List.mem_append_left _ (List.mem_of_getElem? (i := 121) rfl : _ ∈ tables_1_2))) (by rfl)
set_option maxRecDepth 4000 in
theorem u362 : (Jvm.Cond.code ({ cls := "WeddingRegister$Calendar", name := "isFeast", desc := "(I)Z" } : Jvm.MethodName) prog_2_method_2_code (3 : Nat) (Option.some Jvm.ClassFile.FieldType.boolean)) ∈ uw := uw_of (List.mem_append_right _ (List.mem_append_left _ (List.mem_of_getElem? (i := 122) rfl : _ ∈ tables_1_2))) (by rfl)
set_option maxRecDepth 4000 in
theorem u363 : (Jvm.Cond.methodLink "WeddingRegister" (117 : Nat) ({ cls := "WeddingRegister$Calendar", name := "addFeast", desc := "(I)V" } : Jvm.MethodName)) ∈ uw := uw_of (List.mem_append_right _ (List.mem_append_left _ (List.mem_of_getElem? (i := 123) rfl : _ ∈ tables_1_2))) (by rfl)
set_option maxRecDepth 4000 in
theorem u364 : (Jvm.Cond.instanceMethod ({ cls := "WeddingRegister$Calendar", name := "addFeast", desc := "(I)V" } : Jvm.MethodName)) ∈ uw := uw_of (List.mem_append_right _ (List.mem_append_left _ (List.mem_of_getElem? (i := 124) rfl : _ ∈ tables_1_2))) (by rfl)
set_option maxRecDepth 4000 in
theorem u365 : (Jvm.Cond.selects "WeddingRegister$Calendar" ({ cls := "WeddingRegister$Calendar", name := "addFeast", desc := "(I)V" } : Jvm.MethodName) ({ cls := "WeddingRegister$Calendar", name := "addFeast", desc := "(I)V" } : Jvm.MethodName)) ∈ uw := uw_of (List.mem_append_right _ (List.mem_append_left _ (List.mem_of_getElem? (i := 125) rfl : _ ∈ tables_1_2))) (by rfl)
set_option maxRecDepth 4000 in
theorem u366 : (Jvm.Cond.code ({ cls := "WeddingRegister$Calendar", name := "addFeast", desc := "(I)V" } : Jvm.MethodName) prog_2_method_3_code (3 : Nat) (Option.none : Option Jvm.ClassFile.FieldType)) ∈ uw := uw_of (List.mem_append_right _ (List.mem_append_left _ (List.mem_of_getElem? (i := 126) rfl : _ ∈ tables_1_2))) (by rfl)
set_option maxRecDepth 4000 in
theorem u367 : (Jvm.Cond.methodLink "WeddingRegisterLaw" (33 : Nat) ({ cls := "WeddingRegister", name := "go", desc := "(I)I" } : Jvm.MethodName)) ∈ uw := uw_of (List.mem_append_right _ (List.mem_append_left _ (List.mem_of_getElem? (i := 127) rfl : _ ∈ tables_1_2))) (by rfl)
set_option maxRecDepth 4000 in
theorem u368 : (Jvm.Cond.instanceMethod ({ cls := "WeddingRegister", name := "go", desc := "(I)I" } : Jvm.MethodName)) ∈ uw := uw_of (List.mem_append_right _ (List.mem_append_left _ (List.mem_of_getElem? (i := 128) rfl : _ ∈ tables_1_2))) (by rfl)
set_option maxRecDepth 4000 in
theorem u369 : (Jvm.Cond.selects "WeddingRegister" ({ cls := "WeddingRegister", name := "go", desc := "(I)I" } : Jvm.MethodName) ({ cls := "WeddingRegister", name := "go", desc := "(I)I" } : Jvm.MethodName)) ∈ uw := uw_of (List.mem_append_right _ (List.mem_append_left _ (List.mem_of_getElem? (i := 129) rfl : _ ∈ tables_1_2))) (by rfl)
set_option maxRecDepth 4000 in
theorem u370 : (Jvm.Cond.code ({ cls := "WeddingRegister", name := "go", desc := "(I)I" } : Jvm.MethodName) prog_1_method_6_code (2 : Nat) (Option.some Jvm.ClassFile.FieldType.int)) ∈ uw := uw_of (List.mem_append_right _ (List.mem_append_left _ (List.mem_of_getElem? (i := 130) rfl : _ ∈ tables_1_2))) (by rfl)
set_option maxRecDepth 4000 in
theorem u371 : (Jvm.Cond.methodLink "WeddingRegister" (121 : Nat) ({ cls := "java/lang/Math", name := "min", desc := "(II)I" } : Jvm.MethodName)) ∈ uw := uw_of (List.mem_append_right _ (List.mem_append_left _ (List.mem_of_getElem? (i := 131) rfl : _ ∈ tables_1_2))) (by rfl)
set_option maxRecDepth 4000 in
theorem u372 : (Jvm.Cond.methodLink "WeddingRegisterLaw" (38 : Nat) ({ cls := "WeddingRegister", name := "kin", desc := "(II)I" } : Jvm.MethodName)) ∈ uw := uw_of (List.mem_append_right _ (List.mem_append_left _ (List.mem_of_getElem? (i := 132) rfl : _ ∈ tables_1_2))) (by rfl)
set_option maxRecDepth 4000 in
theorem u373 : (Jvm.Cond.instanceMethod ({ cls := "WeddingRegister", name := "kin", desc := "(II)I" } : Jvm.MethodName)) ∈ uw := uw_of (List.mem_append_right _ (List.mem_append_left _ (List.mem_of_getElem? (i := 133) rfl : _ ∈ tables_1_2))) (by rfl)
set_option maxRecDepth 4000 in
theorem u374 : (Jvm.Cond.selects "WeddingRegister" ({ cls := "WeddingRegister", name := "kin", desc := "(II)I" } : Jvm.MethodName) ({ cls := "WeddingRegister", name := "kin", desc := "(II)I" } : Jvm.MethodName)) ∈ uw := uw_of (List.mem_append_right _ (List.mem_append_left _ (List.mem_of_getElem? (i := 134) rfl : _ ∈ tables_1_2))) (by rfl)
set_option maxRecDepth 4000 in
theorem u375 : (Jvm.Cond.code ({ cls := "WeddingRegister", name := "kin", desc := "(II)I" } : Jvm.MethodName) prog_1_method_7_code (5 : Nat) (Option.some Jvm.ClassFile.FieldType.int)) ∈ uw := uw_of (List.mem_append_right _ (List.mem_append_left _ (List.mem_of_getElem? (i := 135) rfl : _ ∈ tables_1_2))) (by rfl)
set_option maxRecDepth 4000 in
theorem u376 : (Jvm.Cond.methodLink "WeddingRegister" (127 : Nat) ({ cls := "WeddingRegister", name := "kinOf", desc := "(LWeddingRegister$Person;LWeddingRegister$Person;)I" } : Jvm.MethodName)) ∈ uw := uw_of (List.mem_append_right _ (List.mem_append_left _ (List.mem_of_getElem? (i := 136) rfl : _ ∈ tables_1_2))) (by rfl)
set_option maxRecDepth 4000 in
theorem u377 : (Jvm.Cond.static ({ cls := "WeddingRegister", name := "kinOf", desc := "(LWeddingRegister$Person;LWeddingRegister$Person;)I" } : Jvm.MethodName)) ∈ uw := uw_of (List.mem_append_right _ (List.mem_append_left _ (List.mem_of_getElem? (i := 137) rfl : _ ∈ tables_1_2))) (by rfl)
set_option maxRecDepth 4000 in
theorem u378 : (Jvm.Cond.code ({ cls := "WeddingRegister", name := "kinOf", desc := "(LWeddingRegister$Person;LWeddingRegister$Person;)I" } : Jvm.MethodName) prog_1_method_35_code (2 : Nat) (Option.some Jvm.ClassFile.FieldType.int)) ∈ uw := uw_of (List.mem_append_right _ (List.mem_append_left _ (List.mem_of_getElem? (i := 138) rfl : _ ∈ tables_1_2))) (by rfl)
set_option maxRecDepth 4000 in
theorem u379 : (Jvm.Cond.methodLink "WeddingRegister" (269 : Nat) ({ cls := "WeddingRegister$Person", name := "isChildOf", desc := "(LWeddingRegister$Person;)Z" } : Jvm.MethodName)) ∈ uw := uw_of (List.mem_append_right _ (List.mem_append_left _ (List.mem_of_getElem? (i := 139) rfl : _ ∈ tables_1_2))) (by rfl)
set_option maxRecDepth 4000 in
theorem u380 : (Jvm.Cond.instanceMethod ({ cls := "WeddingRegister$Person", name := "isChildOf", desc := "(LWeddingRegister$Person;)Z" } : Jvm.MethodName)) ∈ uw := uw_of (List.mem_append_right _ (List.mem_append_left _ (List.mem_of_getElem? (i := 140) rfl : _ ∈ tables_1_2))) (by rfl)
set_option maxRecDepth 4000 in
theorem u381 : (Jvm.Cond.selects "WeddingRegister$Person" ({ cls := "WeddingRegister$Person", name := "isChildOf", desc := "(LWeddingRegister$Person;)Z" } : Jvm.MethodName) ({ cls := "WeddingRegister$Person", name := "isChildOf", desc := "(LWeddingRegister$Person;)Z" } : Jvm.MethodName)) ∈ uw := uw_of (List.mem_append_right _ (List.mem_append_left _ (List.mem_of_getElem? (i := 141) rfl : _ ∈ tables_1_2))) (by rfl)
set_option maxRecDepth 4000 in
theorem u382 : (Jvm.Cond.code ({ cls := "WeddingRegister$Person", name := "isChildOf", desc := "(LWeddingRegister$Person;)Z" } : Jvm.MethodName) prog_11_method_3_code (2 : Nat) (Option.some Jvm.ClassFile.FieldType.boolean)) ∈ uw := uw_of (List.mem_append_right _ (List.mem_append_left _ (List.mem_of_getElem? (i := 142) rfl : _ ∈ tables_1_2))) (by rfl)
set_option maxRecDepth 4000 in
theorem u383 : (Jvm.Cond.methodLink "WeddingRegister" (273 : Nat) ({ cls := "WeddingRegister$Person", name := "sharesParentWith", desc := "(LWeddingRegister$Person;)Z" } : Jvm.MethodName)) ∈ uw := uw_of (List.mem_append_right _ (List.mem_append_left _ (List.mem_of_getElem? (i := 143) rfl : _ ∈ tables_1_2))) (by rfl)
set_option maxRecDepth 4000 in
theorem u384 : (Jvm.Cond.instanceMethod ({ cls := "WeddingRegister$Person", name := "sharesParentWith", desc := "(LWeddingRegister$Person;)Z" } : Jvm.MethodName)) ∈ uw := uw_of (List.mem_append_right _ (List.mem_append_left _ (List.mem_of_getElem? (i := 144) rfl : _ ∈ tables_1_2))) (by rfl)
set_option maxRecDepth 4000 in
theorem u385 : (Jvm.Cond.selects "WeddingRegister$Person" ({ cls := "WeddingRegister$Person", name := "sharesParentWith", desc := "(LWeddingRegister$Person;)Z" } : Jvm.MethodName) ({ cls := "WeddingRegister$Person", name := "sharesParentWith", desc := "(LWeddingRegister$Person;)Z" } : Jvm.MethodName)) ∈ uw := uw_of (List.mem_append_right _ (List.mem_append_left _ (List.mem_of_getElem? (i := 145) rfl : _ ∈ tables_1_2))) (by rfl)
set_option maxRecDepth 4000 in
theorem u386 : (Jvm.Cond.code ({ cls := "WeddingRegister$Person", name := "sharesParentWith", desc := "(LWeddingRegister$Person;)Z" } : Jvm.MethodName) prog_11_method_4_code (2 : Nat) (Option.some Jvm.ClassFile.FieldType.boolean)) ∈ uw := uw_of (List.mem_append_right _ (List.mem_append_left _ (List.mem_of_getElem? (i := 146) rfl : _ ∈ tables_1_2))) (by rfl)
set_option maxRecDepth 4000 in
theorem u387 : (Jvm.Cond.methodLink "WeddingRegister" (276 : Nat) ({ cls := "WeddingRegister", name := "isNearByParent", desc := "(LWeddingRegister$Person;LWeddingRegister$Person;)Z" } : Jvm.MethodName)) ∈ uw := uw_of (List.mem_append_right _ (List.mem_append_left _ (List.mem_of_getElem? (i := 147) rfl : _ ∈ tables_1_2))) (by rfl)
set_option maxRecDepth 4000 in
theorem u388 : (Jvm.Cond.static ({ cls := "WeddingRegister", name := "isNearByParent", desc := "(LWeddingRegister$Person;LWeddingRegister$Person;)Z" } : Jvm.MethodName)) ∈ uw := uw_of (List.mem_append_right _ (List.mem_append_left _ (List.mem_of_getElem? (i := 148) rfl : _ ∈ tables_1_2))) (by rfl)
set_option maxRecDepth 4000 in
theorem u389 : (Jvm.Cond.code ({ cls := "WeddingRegister", name := "isNearByParent", desc := "(LWeddingRegister$Person;LWeddingRegister$Person;)Z" } : Jvm.MethodName) prog_1_method_36_code (2 : Nat) (Option.some Jvm.ClassFile.FieldType.boolean)) ∈ uw := uw_of (List.mem_append_right _ (List.mem_append_left _ (List.mem_of_getElem? (i := 149) rfl : _ ∈ tables_1_2))) (by rfl)
set_option maxRecDepth 4000 in
theorem u390 : (Jvm.Cond.methodLink "WeddingRegister" (288 : Nat) ({ cls := "WeddingRegister", name := "isNearAs", desc := "(LWeddingRegister$Person;LWeddingRegister$Person;)Z" } : Jvm.MethodName)) ∈ uw := uw_of (List.mem_append_right _ (List.mem_append_left _ (List.mem_of_getElem? (i := 150) rfl : _ ∈ tables_1_2))) (by rfl)
set_option maxRecDepth 4000 in
theorem u391 : (Jvm.Cond.static ({ cls := "WeddingRegister", name := "isNearAs", desc := "(LWeddingRegister$Person;LWeddingRegister$Person;)Z" } : Jvm.MethodName)) ∈ uw := uw_of (List.mem_append_right _ (List.mem_append_left _ (List.mem_of_getElem? (i := 151) rfl : _ ∈ tables_1_2))) (by rfl)
set_option maxRecDepth 4000 in
theorem u392 : (Jvm.Cond.code ({ cls := "WeddingRegister", name := "isNearAs", desc := "(LWeddingRegister$Person;LWeddingRegister$Person;)Z" } : Jvm.MethodName) prog_1_method_37_code (2 : Nat) (Option.some Jvm.ClassFile.FieldType.boolean)) ∈ uw := uw_of (List.mem_append_right _ (List.mem_append_left _ (List.mem_of_getElem? (i := 152) rfl : _ ∈ tables_1_2))) (by rfl)
set_option maxRecDepth 4000 in
theorem u393 : (Jvm.Cond.methodLink "WeddingRegister" (282 : Nat) ({ cls := "WeddingRegister", name := "isCousinBy", desc := "(LWeddingRegister$Person;LWeddingRegister$Person;)Z" } : Jvm.MethodName)) ∈ uw := uw_of (List.mem_append_right _ (List.mem_append_left _ (List.mem_of_getElem? (i := 153) rfl : _ ∈ tables_1_2))) (by rfl)
set_option maxRecDepth 4000 in
theorem u394 : (Jvm.Cond.static ({ cls := "WeddingRegister", name := "isCousinBy", desc := "(LWeddingRegister$Person;LWeddingRegister$Person;)Z" } : Jvm.MethodName)) ∈ uw := uw_of (List.mem_append_right _ (List.mem_append_left _ (List.mem_of_getElem? (i := 154) rfl : _ ∈ tables_1_2))) (by rfl)
set_option maxRecDepth 4000 in
theorem u395 : (Jvm.Cond.code ({ cls := "WeddingRegister", name := "isCousinBy", desc := "(LWeddingRegister$Person;LWeddingRegister$Person;)Z" } : Jvm.MethodName) prog_1_method_38_code (2 : Nat) (Option.some Jvm.ClassFile.FieldType.boolean)) ∈ uw := uw_of (List.mem_append_right _ (List.mem_append_left _ (List.mem_of_getElem? (i := 155) rfl : _ ∈ tables_1_2))) (by rfl)
set_option maxRecDepth 4000 in
theorem u396 : (Jvm.Cond.methodLink "WeddingRegister" (291 : Nat) ({ cls := "WeddingRegister", name := "areSiblings", desc := "(LWeddingRegister$Person;LWeddingRegister$Person;)Z" } : Jvm.MethodName)) ∈ uw := uw_of (List.mem_append_right _ (List.mem_append_left _ (List.mem_of_getElem? (i := 156) rfl : _ ∈ tables_1_2))) (by rfl)
set_option maxRecDepth 4000 in
theorem u397 : (Jvm.Cond.static ({ cls := "WeddingRegister", name := "areSiblings", desc := "(LWeddingRegister$Person;LWeddingRegister$Person;)Z" } : Jvm.MethodName)) ∈ uw := uw_of (List.mem_append_right _ (List.mem_append_left _ (List.mem_of_getElem? (i := 157) rfl : _ ∈ tables_1_2))) (by rfl)
set_option maxRecDepth 4000 in
theorem u398 : (Jvm.Cond.code ({ cls := "WeddingRegister", name := "areSiblings", desc := "(LWeddingRegister$Person;LWeddingRegister$Person;)Z" } : Jvm.MethodName) prog_1_method_39_code (2 : Nat) (Option.some Jvm.ClassFile.FieldType.boolean)) ∈ uw := uw_of (List.mem_append_right _ (List.mem_append_left _ (List.mem_of_getElem? (i := 158) rfl : _ ∈ tables_1_2))) (by rfl)
set_option maxRecDepth 4000 in
theorem u399 : (Jvm.Cond.methodLink "WeddingRegisterLaw" (43 : Nat) ({ cls := "WeddingRegister", name := "against", desc := "(III)I" } : Jvm.MethodName)) ∈ uw := uw_of (List.mem_append_right _ (List.mem_append_left _ (List.mem_of_getElem? (i := 159) rfl : _ ∈ tables_1_2))) (by rfl)
set_option maxRecDepth 4000 in
theorem u400 : (Jvm.Cond.instanceMethod ({ cls := "WeddingRegister", name := "against", desc := "(III)I" } : Jvm.MethodName)) ∈ uw := uw_of (List.mem_append_right _ (List.mem_append_left _ (List.mem_of_getElem? (i := 160) rfl : _ ∈ tables_1_2))) (by rfl)
set_option maxRecDepth 4000 in
theorem u401 : (Jvm.Cond.selects "WeddingRegister" ({ cls := "WeddingRegister", name := "against", desc := "(III)I" } : Jvm.MethodName) ({ cls := "WeddingRegister", name := "against", desc := "(III)I" } : Jvm.MethodName)) ∈ uw := uw_of (List.mem_append_right _ (List.mem_append_left _ (List.mem_of_getElem? (i := 161) rfl : _ ∈ tables_1_2))) (by rfl)
set_option maxRecDepth 4000 in
theorem u402 : (Jvm.Cond.code ({ cls := "WeddingRegister", name := "against", desc := "(III)I" } : Jvm.MethodName) prog_1_method_8_code (6 : Nat) (Option.some Jvm.ClassFile.FieldType.int)) ∈ uw := uw_of (List.mem_append_right _ (List.mem_append_left _ (List.mem_of_getElem? (i := 162) rfl : _ ∈ tables_1_2))) (by rfl)
set_option maxRecDepth 4000 in
theorem u403 : (Jvm.Cond.methodLink "WeddingRegister" (131 : Nat) ({ cls := "WeddingRegister", name := "barToCouple", desc := "(LWeddingRegister$Person;LWeddingRegister$Person;I)I" } : Jvm.MethodName)) ∈ uw := uw_of (List.mem_append_right _ (List.mem_append_left _ (List.mem_of_getElem? (i := 163) rfl : _ ∈ tables_1_2))) (by rfl)
set_option maxRecDepth 4000 in
theorem u405 : (Jvm.Cond.instanceMethod ({ cls := "WeddingRegister", name := "barToCouple", desc := "(LWeddingRegister$Person;LWeddingRegister$Person;I)I" } : Jvm.MethodName)) ∈ uw := uw_of (List.mem_append_right _ (List.mem_append_left _ (List.mem_of_getElem? (i := 165) rfl : _ ∈ tables_1_2))) (by rfl)
set_option maxRecDepth 4000 in
theorem u406 : (Jvm.Cond.code ({ cls := "WeddingRegister", name := "barToCouple", desc := "(LWeddingRegister$Person;LWeddingRegister$Person;I)I" } : Jvm.MethodName) prog_1_method_40_code (7 : Nat) (Option.some Jvm.ClassFile.FieldType.int)) ∈ uw := uw_of (List.mem_append_right _ (List.mem_append_left _ (List.mem_of_getElem? (i := 166) rfl : _ ∈ tables_1_2))) (by rfl)
set_option maxRecDepth 4000 in
theorem u407 : (Jvm.Cond.methodLink "WeddingRegister" (297 : Nat) ({ cls := "WeddingRegister$LawBook", name := "inForce", desc := "(II)LWeddingRegister$Law;" } : Jvm.MethodName)) ∈ uw := uw_of (List.mem_append_right _ (List.mem_append_left _ (List.mem_of_getElem? (i := 167) rfl : _ ∈ tables_1_2))) (by rfl)
set_option maxRecDepth 4000 in
theorem u408 : (Jvm.Cond.instanceMethod ({ cls := "WeddingRegister$LawBook", name := "inForce", desc := "(II)LWeddingRegister$Law;" } : Jvm.MethodName)) ∈ uw := uw_of (List.mem_append_right _ (List.mem_append_left _ (List.mem_of_getElem? (i := 168) rfl : _ ∈ tables_1_2))) (by rfl)
set_option maxRecDepth 4000 in
theorem u409 : (Jvm.Cond.selects "WeddingRegister$LawBook" ({ cls := "WeddingRegister$LawBook", name := "inForce", desc := "(II)LWeddingRegister$Law;" } : Jvm.MethodName) ({ cls := "WeddingRegister$LawBook", name := "inForce", desc := "(II)LWeddingRegister$Law;" } : Jvm.MethodName)) ∈ uw := uw_of (List.mem_append_right _ (List.mem_append_left _ (List.mem_of_getElem? (i := 169) rfl : _ ∈ tables_1_2))) (by rfl)
set_option maxRecDepth 4000 in
theorem u410 : (Jvm.Cond.code ({ cls := "WeddingRegister$LawBook", name := "inForce", desc := "(II)LWeddingRegister$Law;" } : Jvm.MethodName) prog_7_method_4_code (6 : Nat) (Option.some (Jvm.ClassFile.FieldType.object "WeddingRegister$Law"))) ∈ uw := uw_of (List.mem_append_right _ (List.mem_append_left _ (List.mem_of_getElem? (i := 170) rfl : _ ∈ tables_1_2))) (by rfl)
set_option maxRecDepth 4000 in
theorem u411 : (Jvm.Cond.methodLink "WeddingRegister$LawBook" (35 : Nat) ({ cls := "java/util/ArrayList", name := "get", desc := "(I)Ljava/lang/Object;" } : Jvm.MethodName)) ∈ uw := uw_of (List.mem_append_right _ (List.mem_append_left _ (List.mem_of_getElem? (i := 171) rfl : _ ∈ tables_1_2))) (by rfl)
set_option maxRecDepth 4000 in
theorem u412 : (Jvm.Cond.methodLink "WeddingRegister" (301 : Nat) ({ cls := "WeddingRegister", name := "isTooYoung", desc := "(LWeddingRegister$Person;LWeddingRegister$Law;I)Z" } : Jvm.MethodName)) ∈ uw := uw_of (List.mem_append_right _ (List.mem_append_left _ (List.mem_of_getElem? (i := 172) rfl : _ ∈ tables_1_2))) (by rfl)
set_option maxRecDepth 4000 in
theorem u413 : (Jvm.Cond.static ({ cls := "WeddingRegister", name := "isTooYoung", desc := "(LWeddingRegister$Person;LWeddingRegister$Law;I)Z" } : Jvm.MethodName)) ∈ uw := uw_of (List.mem_append_right _ (List.mem_append_left _ (List.mem_of_getElem? (i := 173) rfl : _ ∈ tables_1_2))) (by rfl)
set_option maxRecDepth 4000 in
theorem u414 : (Jvm.Cond.code ({ cls := "WeddingRegister", name := "isTooYoung", desc := "(LWeddingRegister$Person;LWeddingRegister$Law;I)Z" } : Jvm.MethodName) prog_1_method_41_code (3 : Nat) (Option.some Jvm.ClassFile.FieldType.boolean)) ∈ uw := uw_of (List.mem_append_right _ (List.mem_append_left _ (List.mem_of_getElem? (i := 174) rfl : _ ∈ tables_1_2))) (by rfl)
set_option maxRecDepth 4000 in
theorem u415 : (Jvm.Cond.methodLink "WeddingRegister" (308 : Nat) ({ cls := "WeddingRegister", name := "lacksPaper", desc := "(LWeddingRegister$Person;LWeddingRegister$Law;I)Z" } : Jvm.MethodName)) ∈ uw := uw_of (List.mem_append_right _ (List.mem_append_left _ (List.mem_of_getElem? (i := 175) rfl : _ ∈ tables_1_2))) (by rfl)
set_option maxRecDepth 4000 in
theorem u416 : (Jvm.Cond.static ({ cls := "WeddingRegister", name := "lacksPaper", desc := "(LWeddingRegister$Person;LWeddingRegister$Law;I)Z" } : Jvm.MethodName)) ∈ uw := uw_of (List.mem_append_right _ (List.mem_append_left _ (List.mem_of_getElem? (i := 176) rfl : _ ∈ tables_1_2))) (by rfl)
set_option maxRecDepth 4000 in
theorem u417 : (Jvm.Cond.code ({ cls := "WeddingRegister", name := "lacksPaper", desc := "(LWeddingRegister$Person;LWeddingRegister$Law;I)Z" } : Jvm.MethodName) prog_1_method_42_code (4 : Nat) (Option.some Jvm.ClassFile.FieldType.boolean)) ∈ uw := uw_of (List.mem_append_right _ (List.mem_append_left _ (List.mem_of_getElem? (i := 177) rfl : _ ∈ tables_1_2))) (by rfl)
set_option maxRecDepth 4000 in
theorem u418 : (Jvm.Cond.methodLink "WeddingRegister" (317 : Nat) ({ cls := "WeddingRegister$Law", name := "wantsPaper", desc := "(I)Z" } : Jvm.MethodName)) ∈ uw := uw_of (List.mem_append_right _ (List.mem_append_left _ (List.mem_of_getElem? (i := 178) rfl : _ ∈ tables_1_2))) (by rfl)
set_option maxRecDepth 4000 in
theorem u419 : (Jvm.Cond.instanceMethod ({ cls := "WeddingRegister$Law", name := "wantsPaper", desc := "(I)Z" } : Jvm.MethodName)) ∈ uw := uw_of (List.mem_append_right _ (List.mem_append_left _ (List.mem_of_getElem? (i := 179) rfl : _ ∈ tables_1_2))) (by rfl)
set_option maxRecDepth 4000 in
theorem u420 : (Jvm.Cond.selects "WeddingRegister$Law" ({ cls := "WeddingRegister$Law", name := "wantsPaper", desc := "(I)Z" } : Jvm.MethodName) ({ cls := "WeddingRegister$Law", name := "wantsPaper", desc := "(I)Z" } : Jvm.MethodName)) ∈ uw := uw_of (List.mem_append_right _ (List.mem_append_left _ (List.mem_of_getElem? (i := 180) rfl : _ ∈ tables_1_2))) (by rfl)
set_option maxRecDepth 4000 in
theorem u421 : (Jvm.Cond.code ({ cls := "WeddingRegister$Law", name := "wantsPaper", desc := "(I)Z" } : Jvm.MethodName) prog_6_method_3_code (2 : Nat) (Option.some Jvm.ClassFile.FieldType.boolean)) ∈ uw := uw_of (List.mem_append_right _ (List.mem_append_left _ (List.mem_of_getElem? (i := 181) rfl : _ ∈ tables_1_2))) (by rfl)
set_option maxRecDepth 4000 in
theorem u422 : (Jvm.Cond.methodLink "WeddingRegister" (323 : Nat) ({ cls := "WeddingRegister$Person", name := "hasPaper", desc := "(III)Z" } : Jvm.MethodName)) ∈ uw := uw_of (List.mem_append_right _ (List.mem_append_left _ (List.mem_of_getElem? (i := 182) rfl : _ ∈ tables_1_2))) (by rfl)
set_option maxRecDepth 4000 in
theorem u423 : (Jvm.Cond.instanceMethod ({ cls := "WeddingRegister$Person", name := "hasPaper", desc := "(III)Z" } : Jvm.MethodName)) ∈ uw := uw_of (List.mem_append_right _ (List.mem_append_left _ (List.mem_of_getElem? (i := 183) rfl : _ ∈ tables_1_2))) (by rfl)
set_option maxRecDepth 4000 in
theorem u424 : (Jvm.Cond.selects "WeddingRegister$Person" ({ cls := "WeddingRegister$Person", name := "hasPaper", desc := "(III)Z" } : Jvm.MethodName) ({ cls := "WeddingRegister$Person", name := "hasPaper", desc := "(III)Z" } : Jvm.MethodName)) ∈ uw := uw_of (List.mem_append_right _ (List.mem_append_left _ (List.mem_of_getElem? (i := 184) rfl : _ ∈ tables_1_2))) (by rfl)
set_option maxRecDepth 4000 in
theorem u425 : (Jvm.Cond.code ({ cls := "WeddingRegister$Person", name := "hasPaper", desc := "(III)Z" } : Jvm.MethodName) prog_11_method_5_code (6 : Nat) (Option.some Jvm.ClassFile.FieldType.boolean)) ∈ uw := uw_of (List.mem_append_right _ (List.mem_append_left _ (List.mem_of_getElem? (i := 185) rfl : _ ∈ tables_1_2))) (by rfl)
set_option maxRecDepth 4000 in
theorem u426 : (Jvm.Cond.methodLink "WeddingRegister$Person" (45 : Nat) ({ cls := "java/util/ArrayList", name := "size", desc := "()I" } : Jvm.MethodName)) ∈ uw := uw_of (List.mem_append_right _ (List.mem_append_left _ (List.mem_of_getElem? (i := 186) rfl : _ ∈ tables_1_2))) (by rfl)
set_option maxRecDepth 4000 in
theorem u427 : (Jvm.Cond.methodLink "WeddingRegister$Person" (49 : Nat) ({ cls := "java/util/ArrayList", name := "get", desc := "(I)Ljava/lang/Object;" } : Jvm.MethodName)) ∈ uw := uw_of (List.mem_append_right _ (List.mem_append_left _ (List.mem_of_getElem? (i := 187) rfl : _ ∈ tables_1_2))) (by rfl)
set_option maxRecDepth 4000 in
theorem u428 : (Jvm.Cond.classLink "WeddingRegister$Person" (53 : Nat) "WeddingRegister$Paper") ∈ uw := uw_of (List.mem_append_right _ (List.mem_append_left _ (List.mem_of_getElem? (i := 188) rfl : _ ∈ tables_1_2))) (by rfl)
set_option maxRecDepth 4000 in
theorem u429 : (Jvm.Cond.methodLink "WeddingRegisterLaw" (48 : Nat) ({ cls := "WeddingRegister", name := "post", desc := "(II)I" } : Jvm.MethodName)) ∈ uw := uw_of (List.mem_append_right _ (List.mem_append_left _ (List.mem_of_getElem? (i := 189) rfl : _ ∈ tables_1_2))) (by rfl)
set_option maxRecDepth 4000 in
theorem u430 : (Jvm.Cond.instanceMethod ({ cls := "WeddingRegister", name := "post", desc := "(II)I" } : Jvm.MethodName)) ∈ uw := uw_of (List.mem_append_right _ (List.mem_append_left _ (List.mem_of_getElem? (i := 190) rfl : _ ∈ tables_1_2))) (by rfl)
set_option maxRecDepth 4000 in
theorem u431 : (Jvm.Cond.selects "WeddingRegister" ({ cls := "WeddingRegister", name := "post", desc := "(II)I" } : Jvm.MethodName) ({ cls := "WeddingRegister", name := "post", desc := "(II)I" } : Jvm.MethodName)) ∈ uw := uw_of (List.mem_append_right _ (List.mem_append_left _ (List.mem_of_getElem? (i := 191) rfl : _ ∈ tables_1_2))) (by rfl)
set_option maxRecDepth 4000 in
theorem u432 : (Jvm.Cond.code ({ cls := "WeddingRegister", name := "post", desc := "(II)I" } : Jvm.MethodName) prog_1_method_9_code (6 : Nat) (Option.some Jvm.ClassFile.FieldType.int)) ∈ uw := uw_of (List.mem_append_right _ (List.mem_append_left _ (List.mem_of_getElem? (i := 192) rfl : _ ∈ tables_1_2))) (by rfl)
set_option maxRecDepth 4000 in
theorem u433 : (Jvm.Cond.methodLink "WeddingRegister" (139 : Nat) ({ cls := "WeddingRegister", name := "hasOpenNotice", desc := "(LWeddingRegister$Person;LWeddingRegister$Person;)Z" } : Jvm.MethodName)) ∈ uw := uw_of (List.mem_append_right _ (List.mem_append_left _ (List.mem_of_getElem? (i := 193) rfl : _ ∈ tables_1_2))) (by rfl)
set_option maxRecDepth 4000 in
theorem u435 : (Jvm.Cond.instanceMethod ({ cls := "WeddingRegister", name := "hasOpenNotice", desc := "(LWeddingRegister$Person;LWeddingRegister$Person;)Z" } : Jvm.MethodName)) ∈ uw := uw_of (List.mem_append_right _ (List.mem_append_left _ (List.mem_of_getElem? (i := 195) rfl : _ ∈ tables_1_2))) (by rfl)
set_option maxRecDepth 4000 in
theorem u436 : (Jvm.Cond.code ({ cls := "WeddingRegister", name := "hasOpenNotice", desc := "(LWeddingRegister$Person;LWeddingRegister$Person;)Z" } : Jvm.MethodName) prog_1_method_34_code (5 : Nat) (Option.some Jvm.ClassFile.FieldType.boolean)) ∈ uw := uw_of (List.mem_append_right _ (List.mem_append_left _ (List.mem_of_getElem? (i := 196) rfl : _ ∈ tables_1_2))) (by rfl)
set_option maxRecDepth 4000 in
theorem u437 : (Jvm.Cond.classLink "WeddingRegister" (143 : Nat) "WeddingRegister$Notice") ∈ uw := uw_of (List.mem_append_right _ (List.mem_append_left _ (List.mem_of_getElem? (i := 197) rfl : _ ∈ tables_1_2))) (by rfl)
set_option maxRecDepth 4000 in
theorem u438 : (Jvm.Cond.methodLink "WeddingRegister" (266 : Nat) ({ cls := "WeddingRegister$Notice", name := "isOf", desc := "(LWeddingRegister$Person;LWeddingRegister$Person;)Z" } : Jvm.MethodName)) ∈ uw := uw_of (List.mem_append_right _ (List.mem_append_left _ (List.mem_of_getElem? (i := 198) rfl : _ ∈ tables_1_2))) (by rfl)
set_option maxRecDepth 4000 in
theorem u439 : (Jvm.Cond.instanceMethod ({ cls := "WeddingRegister$Notice", name := "isOf", desc := "(LWeddingRegister$Person;LWeddingRegister$Person;)Z" } : Jvm.MethodName)) ∈ uw := uw_of (List.mem_append_right _ (List.mem_append_left _ (List.mem_of_getElem? (i := 199) rfl : _ ∈ tables_1_2))) (by rfl)
set_option maxRecDepth 4000 in
theorem u440 : (Jvm.Cond.selects "WeddingRegister$Notice" ({ cls := "WeddingRegister$Notice", name := "isOf", desc := "(LWeddingRegister$Person;LWeddingRegister$Person;)Z" } : Jvm.MethodName) ({ cls := "WeddingRegister$Notice", name := "isOf", desc := "(LWeddingRegister$Person;LWeddingRegister$Person;)Z" } : Jvm.MethodName)) ∈ uw := uw_of (List.mem_append_right _ (List.mem_append_left _ (List.mem_of_getElem? (i := 200) rfl : _ ∈ tables_1_2))) (by rfl)
set_option maxRecDepth 4000 in
theorem u441 : (Jvm.Cond.code ({ cls := "WeddingRegister$Notice", name := "isOf", desc := "(LWeddingRegister$Person;LWeddingRegister$Person;)Z" } : Jvm.MethodName) prog_8_method_2_code (3 : Nat) (Option.some Jvm.ClassFile.FieldType.boolean)) ∈ uw := uw_of (List.mem_append_right _ (List.mem_append_left _ (List.mem_of_getElem? (i := 201) rfl : _ ∈ tables_1_2))) (by rfl)
set_option maxRecDepth 4000 in
theorem u442 : (Jvm.Cond.instantiable "WeddingRegister$Notice" (8 : Nat)) ∈ uw := uw_of (List.mem_append_right _ (List.mem_append_left _ (List.mem_of_getElem? (i := 202) rfl : _ ∈ tables_1_2))) (by rfl)
set_option maxRecDepth 4000 in
theorem u443 : (Jvm.Cond.methodLink "WeddingRegister" (145 : Nat) ({ cls := "WeddingRegister$Notice", name := "<init>", desc := "(ILWeddingRegister$Person;LWeddingRegister$Person;I)V" } : Jvm.MethodName)) ∈ uw := uw_of (List.mem_append_right _ (List.mem_append_left _ (List.mem_of_getElem? (i := 203) rfl : _ ∈ tables_1_2))) (by rfl)
set_option maxRecDepth 4000 in
theorem u444 : (Jvm.Cond.instanceMethod ({ cls := "WeddingRegister$Notice", name := "<init>", desc := "(ILWeddingRegister$Person;LWeddingRegister$Person;I)V" } : Jvm.MethodName)) ∈ uw := uw_of (List.mem_append_right _ (List.mem_append_left _ (List.mem_of_getElem? (i := 204) rfl : _ ∈ tables_1_2))) (by rfl)
set_option maxRecDepth 4000 in
theorem u445 : (Jvm.Cond.code ({ cls := "WeddingRegister$Notice", name := "<init>", desc := "(ILWeddingRegister$Person;LWeddingRegister$Person;I)V" } : Jvm.MethodName) prog_8_method_1_code (5 : Nat) (Option.none : Option Jvm.ClassFile.FieldType)) ∈ uw := uw_of (List.mem_append_right _ (List.mem_append_left _ (List.mem_of_getElem? (i := 205) rfl : _ ∈ tables_1_2))) (by rfl)
set_option maxRecDepth 4000 in
theorem u446 : (Jvm.Cond.methodLink "WeddingRegister$Notice" (3 : Nat) ({ cls := "java/lang/Object", name := "<init>", desc := "()V" } : Jvm.MethodName)) ∈ uw := uw_of (List.mem_append_right _ (List.mem_append_left _ (List.mem_of_getElem? (i := 206) rfl : _ ∈ tables_1_2))) (by rfl)
set_option maxRecDepth 4000 in
theorem u447 : (Jvm.Cond.fieldLink "WeddingRegister$Notice" (9 : Nat) "WeddingRegister$Notice" "number" "I") ∈ uw := uw_of (List.mem_append_right _ (List.mem_append_left _ (List.mem_of_getElem? (i := 207) rfl : _ ∈ tables_1_2))) (by rfl)
set_option maxRecDepth 4000 in
theorem u448 : (Jvm.Cond.fieldLink "WeddingRegister$Entry" (58 : Nat) "WeddingRegister$Notice" "number" "I") ∈ uw := uw_of (List.mem_append_right _ (List.mem_append_left _ (List.mem_of_getElem? (i := 208) rfl : _ ∈ tables_1_2))) (by rfl)
set_option maxRecDepth 4000 in
theorem u449 : (Jvm.Cond.fieldLink "WeddingRegister$Notice" (15 : Nat) "WeddingRegister$Notice" "first" "LWeddingRegister$Person;") ∈ uw := uw_of (List.mem_append_right _ (List.mem_append_left _ (List.mem_of_getElem? (i := 209) rfl : _ ∈ tables_1_2))) (by rfl)
set_option maxRecDepth 4000 in
theorem u450 : (Jvm.Cond.fieldLink "WeddingRegister$Entry" (19 : Nat) "WeddingRegister$Notice" "first" "LWeddingRegister$Person;") ∈ uw := uw_of (List.mem_append_right _ (List.mem_append_left _ (List.mem_of_getElem? (i := 210) rfl : _ ∈ tables_1_2))) (by rfl)
set_option maxRecDepth 4000 in
theorem u451 : (Jvm.Cond.fieldLink "WeddingRegister" (212 : Nat) "WeddingRegister$Notice" "first" "LWeddingRegister$Person;") ∈ uw := uw_of (List.mem_append_right _ (List.mem_append_left _ (List.mem_of_getElem? (i := 211) rfl : _ ∈ tables_1_2))) (by rfl)
set_option maxRecDepth 4000 in
theorem u452 : (Jvm.Cond.fieldLink "WeddingRegister$Notice" (19 : Nat) "WeddingRegister$Notice" "second" "LWeddingRegister$Person;") ∈ uw := uw_of (List.mem_append_right _ (List.mem_append_left _ (List.mem_of_getElem? (i := 212) rfl : _ ∈ tables_1_2))) (by rfl)
set_option maxRecDepth 4000 in
theorem u453 : (Jvm.Cond.fieldLink "WeddingRegister$Entry" (33 : Nat) "WeddingRegister$Notice" "second" "LWeddingRegister$Person;") ∈ uw := uw_of (List.mem_append_right _ (List.mem_append_left _ (List.mem_of_getElem? (i := 213) rfl : _ ∈ tables_1_2))) (by rfl)
set_option maxRecDepth 4000 in
theorem u454 : (Jvm.Cond.fieldLink "WeddingRegister" (215 : Nat) "WeddingRegister$Notice" "second" "LWeddingRegister$Person;") ∈ uw := uw_of (List.mem_append_right _ (List.mem_append_left _ (List.mem_of_getElem? (i := 214) rfl : _ ∈ tables_1_2))) (by rfl)
set_option maxRecDepth 4000 in
theorem u455 : (Jvm.Cond.fieldLink "WeddingRegister$Notice" (22 : Nat) "WeddingRegister$Notice" "posted" "I") ∈ uw := uw_of (List.mem_append_right _ (List.mem_append_left _ (List.mem_of_getElem? (i := 215) rfl : _ ∈ tables_1_2))) (by rfl)
set_option maxRecDepth 4000 in
theorem u456 : (Jvm.Cond.fieldLink "WeddingRegister" (158 : Nat) "WeddingRegister$Notice" "posted" "I") ∈ uw := uw_of (List.mem_append_right _ (List.mem_append_left _ (List.mem_of_getElem? (i := 216) rfl : _ ∈ tables_1_2))) (by rfl)
set_option maxRecDepth 4000 in
theorem u457 : (Jvm.Cond.fieldLink "WeddingRegister$Notice" (25 : Nat) "WeddingRegister$Notice" "state" "I") ∈ uw := uw_of (List.mem_append_right _ (List.mem_append_left _ (List.mem_of_getElem? (i := 217) rfl : _ ∈ tables_1_2))) (by rfl)
set_option maxRecDepth 4000 in
theorem u458 : (Jvm.Cond.fieldLink "WeddingRegister" (152 : Nat) "WeddingRegister$Notice" "state" "I") ∈ uw := uw_of (List.mem_append_right _ (List.mem_append_left _ (List.mem_of_getElem? (i := 218) rfl : _ ∈ tables_1_2))) (by rfl)
set_option maxRecDepth 4000 in
theorem u459 : (Jvm.Cond.fieldLink "WeddingRegister$Notice" (28 : Nat) "WeddingRegister$Notice" "standingObjections" "I") ∈ uw := uw_of (List.mem_append_right _ (List.mem_append_left _ (List.mem_of_getElem? (i := 219) rfl : _ ∈ tables_1_2))) (by rfl)
set_option maxRecDepth 4000 in
theorem u460 : (Jvm.Cond.fieldLink "WeddingRegister" (173 : Nat) "WeddingRegister$Notice" "standingObjections" "I") ∈ uw := uw_of (List.mem_append_right _ (List.mem_append_left _ (List.mem_of_getElem? (i := 220) rfl : _ ∈ tables_1_2))) (by rfl)
set_option maxRecDepth 4000 in
theorem u461 : (Jvm.Cond.fieldLink "WeddingRegister$Notice" (31 : Nat) "WeddingRegister$Notice" "bookedDay" "I") ∈ uw := uw_of (List.mem_append_right _ (List.mem_append_left _ (List.mem_of_getElem? (i := 221) rfl : _ ∈ tables_1_2))) (by rfl)
set_option maxRecDepth 4000 in
theorem u462 : (Jvm.Cond.fieldLink "WeddingRegister" (209 : Nat) "WeddingRegister$Notice" "bookedDay" "I") ∈ uw := uw_of (List.mem_append_right _ (List.mem_append_left _ (List.mem_of_getElem? (i := 222) rfl : _ ∈ tables_1_2))) (by rfl)
set_option maxRecDepth 4000 in
theorem u463 : (Jvm.Cond.fieldLink "WeddingRegister$Entry" (39 : Nat) "WeddingRegister$Notice" "slot" "I") ∈ uw := uw_of (List.mem_append_right _ (List.mem_append_left _ (List.mem_of_getElem? (i := 223) rfl : _ ∈ tables_1_2))) (by rfl)
set_option maxRecDepth 4000 in
theorem u464 : (Jvm.Cond.fieldLink "WeddingRegister$Notice" (34 : Nat) "WeddingRegister$Notice" "slot" "I") ∈ uw := uw_of (List.mem_append_right _ (List.mem_append_left _ (List.mem_of_getElem? (i := 224) rfl : _ ∈ tables_1_2))) (by rfl)
set_option maxRecDepth 4000 in
theorem u465 : (Jvm.Cond.fieldLink "WeddingRegister" (254 : Nat) "WeddingRegister$Notice" "slot" "I") ∈ uw := uw_of (List.mem_append_right _ (List.mem_append_left _ (List.mem_of_getElem? (i := 225) rfl : _ ∈ tables_1_2))) (by rfl)
set_option maxRecDepth 4000 in
theorem u466 : (Jvm.Cond.laysFinal "WeddingRegister$Notice" "WeddingRegister$Notice" "number" "I") ∈ uw := uw_of (List.mem_append_right _ (List.mem_append_left _ (List.mem_of_getElem? (i := 226) rfl : _ ∈ tables_1_2))) (by rfl)
set_option maxRecDepth 4000 in
theorem u468 : (Jvm.Cond.laysFinal "WeddingRegister$Notice" "WeddingRegister$Notice" "first" "LWeddingRegister$Person;") ∈ uw := uw_of (List.mem_append_right _ (List.mem_append_left _ (List.mem_of_getElem? (i := 228) rfl : _ ∈ tables_1_2))) (by rfl)
set_option maxRecDepth 4000 in
theorem u470 : (Jvm.Cond.laysFinal "WeddingRegister$Notice" "WeddingRegister$Notice" "second" "LWeddingRegister$Person;") ∈ uw := uw_of (List.mem_append_right _ (List.mem_append_left _ (List.mem_of_getElem? (i := 230) rfl : _ ∈ tables_1_2))) (by rfl)
set_option maxRecDepth 4000 in
theorem u472 : (Jvm.Cond.laysFinal "WeddingRegister$Notice" "WeddingRegister$Notice" "posted" "I") ∈ uw := uw_of (List.mem_append_right _ (List.mem_append_left _ (List.mem_of_getElem? (i := 232) rfl : _ ∈ tables_1_2))) (by rfl)
set_option maxRecDepth 4000 in
theorem u474 : (Jvm.Cond.lays "WeddingRegister$Notice" "WeddingRegister$Notice" "state" "I") ∈ uw := uw_of (List.mem_append_right _ (List.mem_append_left _ (List.mem_of_getElem? (i := 234) rfl : _ ∈ tables_1_2))) (by rfl)
set_option maxRecDepth 4000 in
theorem u476 : (Jvm.Cond.lays "WeddingRegister$Notice" "WeddingRegister$Notice" "standingObjections" "I") ∈ uw := uw_of (List.mem_append_right _ (List.mem_append_left _ (List.mem_of_getElem? (i := 236) rfl : _ ∈ tables_1_2))) (by rfl)
set_option maxRecDepth 4000 in
theorem u478 : (Jvm.Cond.lays "WeddingRegister$Notice" "WeddingRegister$Notice" "bookedDay" "I") ∈ uw := uw_of (List.mem_append_right _ (List.mem_append_left _ (List.mem_of_getElem? (i := 238) rfl : _ ∈ tables_1_2))) (by rfl)
set_option maxRecDepth 4000 in
theorem u480 : (Jvm.Cond.lays "WeddingRegister$Notice" "WeddingRegister$Notice" "slot" "I") ∈ uw := uw_of (List.mem_append_right _ (List.mem_append_right _ (List.mem_append_left _ (List.mem_of_getElem? (i := 0) rfl : _ ∈ tables_1_3)))) (by rfl)
set_option maxRecDepth 4000 in
theorem u483 : (Jvm.Cond.methodLink "WeddingRegisterLaw" (52 : Nat) ({ cls := "WeddingRegister", name := "withdraw", desc := "(I)Z" } : Jvm.MethodName)) ∈ uw := uw_of (List.mem_append_right _ (List.mem_append_right _ (List.mem_append_left _ (List.mem_of_getElem? (i := 3) rfl : _ ∈ tables_1_3)))) (by rfl)
set_option maxRecDepth 4000 in
theorem u484 : (Jvm.Cond.instanceMethod ({ cls := "WeddingRegister", name := "withdraw", desc := "(I)Z" } : Jvm.MethodName)) ∈ uw := uw_of (List.mem_append_right _ (List.mem_append_right _ (List.mem_append_left _ (List.mem_of_getElem? (i := 4) rfl : _ ∈ tables_1_3)))) (by rfl)
set_option maxRecDepth 4000 in
theorem u485 : (Jvm.Cond.selects "WeddingRegister" ({ cls := "WeddingRegister", name := "withdraw", desc := "(I)Z" } : Jvm.MethodName) ({ cls := "WeddingRegister", name := "withdraw", desc := "(I)Z" } : Jvm.MethodName)) ∈ uw := uw_of (List.mem_append_right _ (List.mem_append_right _ (List.mem_append_left _ (List.mem_of_getElem? (i := 5) rfl : _ ∈ tables_1_3)))) (by rfl)
set_option maxRecDepth 4000 in
theorem u486 : (Jvm.Cond.code ({ cls := "WeddingRegister", name := "withdraw", desc := "(I)Z" } : Jvm.MethodName) prog_1_method_10_code (3 : Nat) (Option.some Jvm.ClassFile.FieldType.boolean)) ∈ uw := uw_of (List.mem_append_right _ (List.mem_append_right _ (List.mem_append_left _ (List.mem_of_getElem? (i := 6) rfl : _ ∈ tables_1_3)))) (by rfl)
set_option maxRecDepth 4000 in
theorem u487 : (Jvm.Cond.methodLink "WeddingRegister" (148 : Nat) ({ cls := "WeddingRegister", name := "noticeAt", desc := "(I)LWeddingRegister$Notice;" } : Jvm.MethodName)) ∈ uw := uw_of (List.mem_append_right _ (List.mem_append_right _ (List.mem_append_left _ (List.mem_of_getElem? (i := 7) rfl : _ ∈ tables_1_3)))) (by rfl)
set_option maxRecDepth 4000 in
theorem u489 : (Jvm.Cond.instanceMethod ({ cls := "WeddingRegister", name := "noticeAt", desc := "(I)LWeddingRegister$Notice;" } : Jvm.MethodName)) ∈ uw := uw_of (List.mem_append_right _ (List.mem_append_right _ (List.mem_append_left _ (List.mem_of_getElem? (i := 9) rfl : _ ∈ tables_1_3)))) (by rfl)
set_option maxRecDepth 4000 in
theorem u490 : (Jvm.Cond.code ({ cls := "WeddingRegister", name := "noticeAt", desc := "(I)LWeddingRegister$Notice;" } : Jvm.MethodName) prog_1_method_30_code (2 : Nat) (Option.some (Jvm.ClassFile.FieldType.object "WeddingRegister$Notice"))) ∈ uw := uw_of (List.mem_append_right _ (List.mem_append_right _ (List.mem_append_left _ (List.mem_of_getElem? (i := 10) rfl : _ ∈ tables_1_3)))) (by rfl)
set_option maxRecDepth 4000 in
theorem u491 : (Jvm.Cond.methodLink "WeddingRegister" (155 : Nat) ({ cls := "WeddingRegister$Notice", name := "setBooking", desc := "(II)V" } : Jvm.MethodName)) ∈ uw := uw_of (List.mem_append_right _ (List.mem_append_right _ (List.mem_append_left _ (List.mem_of_getElem? (i := 11) rfl : _ ∈ tables_1_3)))) (by rfl)
set_option maxRecDepth 4000 in
theorem u492 : (Jvm.Cond.instanceMethod ({ cls := "WeddingRegister$Notice", name := "setBooking", desc := "(II)V" } : Jvm.MethodName)) ∈ uw := uw_of (List.mem_append_right _ (List.mem_append_right _ (List.mem_append_left _ (List.mem_of_getElem? (i := 12) rfl : _ ∈ tables_1_3)))) (by rfl)
set_option maxRecDepth 4000 in
theorem u493 : (Jvm.Cond.selects "WeddingRegister$Notice" ({ cls := "WeddingRegister$Notice", name := "setBooking", desc := "(II)V" } : Jvm.MethodName) ({ cls := "WeddingRegister$Notice", name := "setBooking", desc := "(II)V" } : Jvm.MethodName)) ∈ uw := uw_of (List.mem_append_right _ (List.mem_append_right _ (List.mem_append_left _ (List.mem_of_getElem? (i := 13) rfl : _ ∈ tables_1_3)))) (by rfl)
set_option maxRecDepth 4000 in
theorem u494 : (Jvm.Cond.code ({ cls := "WeddingRegister$Notice", name := "setBooking", desc := "(II)V" } : Jvm.MethodName) prog_8_method_4_code (3 : Nat) (Option.none : Option Jvm.ClassFile.FieldType)) ∈ uw := uw_of (List.mem_append_right _ (List.mem_append_right _ (List.mem_append_left _ (List.mem_of_getElem? (i := 14) rfl : _ ∈ tables_1_3)))) (by rfl)
set_option maxRecDepth 4000 in
theorem u495 : (Jvm.Cond.methodLink "WeddingRegisterLaw" (56 : Nat) ({ cls := "WeddingRegister", name := "hung", desc := "(II)I" } : Jvm.MethodName)) ∈ uw := uw_of (List.mem_append_right _ (List.mem_append_right _ (List.mem_append_left _ (List.mem_of_getElem? (i := 15) rfl : _ ∈ tables_1_3)))) (by rfl)
set_option maxRecDepth 4000 in
theorem u496 : (Jvm.Cond.instanceMethod ({ cls := "WeddingRegister", name := "hung", desc := "(II)I" } : Jvm.MethodName)) ∈ uw := uw_of (List.mem_append_right _ (List.mem_append_right _ (List.mem_append_left _ (List.mem_of_getElem? (i := 16) rfl : _ ∈ tables_1_3)))) (by rfl)
set_option maxRecDepth 4000 in
theorem u497 : (Jvm.Cond.selects "WeddingRegister" ({ cls := "WeddingRegister", name := "hung", desc := "(II)I" } : Jvm.MethodName) ({ cls := "WeddingRegister", name := "hung", desc := "(II)I" } : Jvm.MethodName)) ∈ uw := uw_of (List.mem_append_right _ (List.mem_append_right _ (List.mem_append_left _ (List.mem_of_getElem? (i := 17) rfl : _ ∈ tables_1_3)))) (by rfl)
set_option maxRecDepth 4000 in
theorem u498 : (Jvm.Cond.code ({ cls := "WeddingRegister", name := "hung", desc := "(II)I" } : Jvm.MethodName) prog_1_method_11_code (4 : Nat) (Option.some Jvm.ClassFile.FieldType.int)) ∈ uw := uw_of (List.mem_append_right _ (List.mem_append_right _ (List.mem_append_left _ (List.mem_of_getElem? (i := 18) rfl : _ ∈ tables_1_3)))) (by rfl)
set_option maxRecDepth 4000 in
theorem u499 : (Jvm.Cond.methodLink "WeddingRegister" (161 : Nat) ({ cls := "WeddingRegister$Calendar", name := "workdaysBetween", desc := "(II)I" } : Jvm.MethodName)) ∈ uw := uw_of (List.mem_append_right _ (List.mem_append_right _ (List.mem_append_left _ (List.mem_of_getElem? (i := 19) rfl : _ ∈ tables_1_3)))) (by rfl)
set_option maxRecDepth 4000 in
theorem u500 : (Jvm.Cond.instanceMethod ({ cls := "WeddingRegister$Calendar", name := "workdaysBetween", desc := "(II)I" } : Jvm.MethodName)) ∈ uw := uw_of (List.mem_append_right _ (List.mem_append_right _ (List.mem_append_left _ (List.mem_of_getElem? (i := 20) rfl : _ ∈ tables_1_3)))) (by rfl)
set_option maxRecDepth 4000 in
theorem u501 : (Jvm.Cond.selects "WeddingRegister$Calendar" ({ cls := "WeddingRegister$Calendar", name := "workdaysBetween", desc := "(II)I" } : Jvm.MethodName) ({ cls := "WeddingRegister$Calendar", name := "workdaysBetween", desc := "(II)I" } : Jvm.MethodName)) ∈ uw := uw_of (List.mem_append_right _ (List.mem_append_right _ (List.mem_append_left _ (List.mem_of_getElem? (i := 21) rfl : _ ∈ tables_1_3)))) (by rfl)
set_option maxRecDepth 4000 in
theorem u502 : (Jvm.Cond.code ({ cls := "WeddingRegister$Calendar", name := "workdaysBetween", desc := "(II)I" } : Jvm.MethodName) prog_2_method_4_code (3 : Nat) (Option.some Jvm.ClassFile.FieldType.int)) ∈ uw := uw_of (List.mem_append_right _ (List.mem_append_right _ (List.mem_append_left _ (List.mem_of_getElem? (i := 22) rfl : _ ∈ tables_1_3)))) (by rfl)
set_option maxRecDepth 4000 in
theorem u503 : (Jvm.Cond.methodLink "WeddingRegister$Calendar" (15 : Nat) ({ cls := "WeddingRegister$Calendar", name := "feastsAheadOf", desc := "(I)I" } : Jvm.MethodName)) ∈ uw := uw_of (List.mem_append_right _ (List.mem_append_right _ (List.mem_append_left _ (List.mem_of_getElem? (i := 23) rfl : _ ∈ tables_1_3)))) (by rfl)
set_option maxRecDepth 4000 in
theorem u505 : (Jvm.Cond.instanceMethod ({ cls := "WeddingRegister$Calendar", name := "feastsAheadOf", desc := "(I)I" } : Jvm.MethodName)) ∈ uw := uw_of (List.mem_append_right _ (List.mem_append_right _ (List.mem_append_left _ (List.mem_of_getElem? (i := 25) rfl : _ ∈ tables_1_3)))) (by rfl)
set_option maxRecDepth 4000 in
theorem u506 : (Jvm.Cond.code ({ cls := "WeddingRegister$Calendar", name := "feastsAheadOf", desc := "(I)I" } : Jvm.MethodName) prog_2_method_5_code (5 : Nat) (Option.some Jvm.ClassFile.FieldType.int)) ∈ uw := uw_of (List.mem_append_right _ (List.mem_append_right _ (List.mem_append_left _ (List.mem_of_getElem? (i := 26) rfl : _ ∈ tables_1_3)))) (by rfl)
set_option maxRecDepth 4000 in
theorem u507 : (Jvm.Cond.methodLink "WeddingRegister$Calendar" (19 : Nat) ({ cls := "java/lang/Long", name := "bitCount", desc := "(J)I" } : Jvm.MethodName)) ∈ uw := uw_of (List.mem_append_right _ (List.mem_append_right _ (List.mem_append_left _ (List.mem_of_getElem? (i := 27) rfl : _ ∈ tables_1_3)))) (by rfl)
set_option maxRecDepth 4000 in
theorem u508 : (Jvm.Cond.static ({ cls := "java/lang/Long", name := "bitCount", desc := "(J)I" } : Jvm.MethodName)) ∈ uw := uw_of (List.mem_append_right _ (List.mem_append_right _ (List.mem_append_left _ (List.mem_of_getElem? (i := 28) rfl : _ ∈ tables_1_3)))) (by rfl)
set_option maxRecDepth 4000 in
theorem u509 : (Jvm.Cond.code ({ cls := "java/lang/Long", name := "bitCount", desc := "(J)I" } : Jvm.MethodName) prog_17_method_50_code (2 : Nat) (Option.some Jvm.ClassFile.FieldType.int)) ∈ uw := uw_of (List.mem_append_right _ (List.mem_append_right _ (List.mem_append_left _ (List.mem_of_getElem? (i := 29) rfl : _ ∈ tables_1_3)))) (by rfl)
set_option maxRecDepth 4000 in
theorem u510 : (Jvm.Cond.constantLong "java/lang/Long" (314 : Nat) (6148914691236517205 : Int64)) ∈ uw := uw_of (List.mem_append_right _ (List.mem_append_right _ (List.mem_append_left _ (List.mem_of_getElem? (i := 30) rfl : _ ∈ tables_1_3)))) (by rfl)
set_option maxRecDepth 4000 in
theorem u511 : (Jvm.Cond.constantLong "java/lang/Long" (316 : Nat) (3689348814741910323 : Int64)) ∈ uw := uw_of (List.mem_append_right _ (List.mem_append_right _ (List.mem_append_left _ (List.mem_of_getElem? (i := 31) rfl : _ ∈ tables_1_3)))) (by rfl)
set_option maxRecDepth 4000 in
theorem u512 : (Jvm.Cond.constantLong "java/lang/Long" (318 : Nat) (1085102592571150095 : Int64)) ∈ uw := uw_of (List.mem_append_right _ (List.mem_append_right _ (List.mem_append_left _ (List.mem_of_getElem? (i := 32) rfl : _ ∈ tables_1_3)))) (by rfl)
set_option maxRecDepth 4000 in
theorem u513 : (Jvm.Cond.methodLink "WeddingRegisterLaw" (60 : Nat) ({ cls := "WeddingRegister", name := "ripe", desc := "(I)I" } : Jvm.MethodName)) ∈ uw := uw_of (List.mem_append_right _ (List.mem_append_right _ (List.mem_append_left _ (List.mem_of_getElem? (i := 33) rfl : _ ∈ tables_1_3)))) (by rfl)
set_option maxRecDepth 4000 in
theorem u514 : (Jvm.Cond.instanceMethod ({ cls := "WeddingRegister", name := "ripe", desc := "(I)I" } : Jvm.MethodName)) ∈ uw := uw_of (List.mem_append_right _ (List.mem_append_right _ (List.mem_append_left _ (List.mem_of_getElem? (i := 34) rfl : _ ∈ tables_1_3)))) (by rfl)
set_option maxRecDepth 4000 in
theorem u515 : (Jvm.Cond.selects "WeddingRegister" ({ cls := "WeddingRegister", name := "ripe", desc := "(I)I" } : Jvm.MethodName) ({ cls := "WeddingRegister", name := "ripe", desc := "(I)I" } : Jvm.MethodName)) ∈ uw := uw_of (List.mem_append_right _ (List.mem_append_right _ (List.mem_append_left _ (List.mem_of_getElem? (i := 35) rfl : _ ∈ tables_1_3)))) (by rfl)
set_option maxRecDepth 4000 in
theorem u516 : (Jvm.Cond.code ({ cls := "WeddingRegister", name := "ripe", desc := "(I)I" } : Jvm.MethodName) prog_1_method_12_code (3 : Nat) (Option.some Jvm.ClassFile.FieldType.int)) ∈ uw := uw_of (List.mem_append_right _ (List.mem_append_right _ (List.mem_append_left _ (List.mem_of_getElem? (i := 36) rfl : _ ∈ tables_1_3)))) (by rfl)
set_option maxRecDepth 4000 in
theorem u517 : (Jvm.Cond.methodLink "WeddingRegister" (164 : Nat) ({ cls := "WeddingRegister", name := "firstRipeDay", desc := "(LWeddingRegister$Notice;)I" } : Jvm.MethodName)) ∈ uw := uw_of (List.mem_append_right _ (List.mem_append_right _ (List.mem_append_left _ (List.mem_of_getElem? (i := 37) rfl : _ ∈ tables_1_3)))) (by rfl)
set_option maxRecDepth 4000 in
theorem u519 : (Jvm.Cond.instanceMethod ({ cls := "WeddingRegister", name := "firstRipeDay", desc := "(LWeddingRegister$Notice;)I" } : Jvm.MethodName)) ∈ uw := uw_of (List.mem_append_right _ (List.mem_append_right _ (List.mem_append_left _ (List.mem_of_getElem? (i := 39) rfl : _ ∈ tables_1_3)))) (by rfl)
set_option maxRecDepth 4000 in
theorem u520 : (Jvm.Cond.code ({ cls := "WeddingRegister", name := "firstRipeDay", desc := "(LWeddingRegister$Notice;)I" } : Jvm.MethodName) prog_1_method_45_code (4 : Nat) (Option.some Jvm.ClassFile.FieldType.int)) ∈ uw := uw_of (List.mem_append_right _ (List.mem_append_right _ (List.mem_append_left _ (List.mem_of_getElem? (i := 40) rfl : _ ∈ tables_1_3)))) (by rfl)
set_option maxRecDepth 4000 in
theorem u521 : (Jvm.Cond.methodLink "WeddingRegister" (332 : Nat) ({ cls := "WeddingRegister", name := "hangingAsked", desc := "(LWeddingRegister$Notice;I)I" } : Jvm.MethodName)) ∈ uw := uw_of (List.mem_append_right _ (List.mem_append_right _ (List.mem_append_left _ (List.mem_of_getElem? (i := 41) rfl : _ ∈ tables_1_3)))) (by rfl)
set_option maxRecDepth 4000 in
theorem u523 : (Jvm.Cond.instanceMethod ({ cls := "WeddingRegister", name := "hangingAsked", desc := "(LWeddingRegister$Notice;I)I" } : Jvm.MethodName)) ∈ uw := uw_of (List.mem_append_right _ (List.mem_append_right _ (List.mem_append_left _ (List.mem_of_getElem? (i := 43) rfl : _ ∈ tables_1_3)))) (by rfl)
set_option maxRecDepth 4000 in
theorem u524 : (Jvm.Cond.code ({ cls := "WeddingRegister", name := "hangingAsked", desc := "(LWeddingRegister$Notice;I)I" } : Jvm.MethodName) prog_1_method_43_code (3 : Nat) (Option.some Jvm.ClassFile.FieldType.int)) ∈ uw := uw_of (List.mem_append_right _ (List.mem_append_right _ (List.mem_append_left _ (List.mem_of_getElem? (i := 44) rfl : _ ∈ tables_1_3)))) (by rfl)
set_option maxRecDepth 4000 in
theorem u525 : (Jvm.Cond.methodLink "WeddingRegister" (329 : Nat) ({ cls := "java/lang/Math", name := "max", desc := "(II)I" } : Jvm.MethodName)) ∈ uw := uw_of (List.mem_append_right _ (List.mem_append_right _ (List.mem_append_left _ (List.mem_of_getElem? (i := 45) rfl : _ ∈ tables_1_3)))) (by rfl)
set_option maxRecDepth 4000 in
theorem u526 : (Jvm.Cond.methodLink "WeddingRegisterLaw" (64 : Nat) ({ cls := "WeddingRegister", name := "object", desc := "(I)I" } : Jvm.MethodName)) ∈ uw := uw_of (List.mem_append_right _ (List.mem_append_right _ (List.mem_append_left _ (List.mem_of_getElem? (i := 46) rfl : _ ∈ tables_1_3)))) (by rfl)
set_option maxRecDepth 4000 in
theorem u527 : (Jvm.Cond.instanceMethod ({ cls := "WeddingRegister", name := "object", desc := "(I)I" } : Jvm.MethodName)) ∈ uw := uw_of (List.mem_append_right _ (List.mem_append_right _ (List.mem_append_left _ (List.mem_of_getElem? (i := 47) rfl : _ ∈ tables_1_3)))) (by rfl)
set_option maxRecDepth 4000 in
theorem u528 : (Jvm.Cond.selects "WeddingRegister" ({ cls := "WeddingRegister", name := "object", desc := "(I)I" } : Jvm.MethodName) ({ cls := "WeddingRegister", name := "object", desc := "(I)I" } : Jvm.MethodName)) ∈ uw := uw_of (List.mem_append_right _ (List.mem_append_right _ (List.mem_append_left _ (List.mem_of_getElem? (i := 48) rfl : _ ∈ tables_1_3)))) (by rfl)
set_option maxRecDepth 4000 in
theorem u529 : (Jvm.Cond.code ({ cls := "WeddingRegister", name := "object", desc := "(I)I" } : Jvm.MethodName) prog_1_method_13_code (5 : Nat) (Option.some Jvm.ClassFile.FieldType.int)) ∈ uw := uw_of (List.mem_append_right _ (List.mem_append_right _ (List.mem_append_left _ (List.mem_of_getElem? (i := 49) rfl : _ ∈ tables_1_3)))) (by rfl)
set_option maxRecDepth 4000 in
theorem u530 : (Jvm.Cond.classLink "WeddingRegister" (168 : Nat) "WeddingRegister$Objection") ∈ uw := uw_of (List.mem_append_right _ (List.mem_append_right _ (List.mem_append_left _ (List.mem_of_getElem? (i := 50) rfl : _ ∈ tables_1_3)))) (by rfl)
set_option maxRecDepth 4000 in
theorem u531 : (Jvm.Cond.instantiable "WeddingRegister$Objection" (2 : Nat)) ∈ uw := uw_of (List.mem_append_right _ (List.mem_append_right _ (List.mem_append_left _ (List.mem_of_getElem? (i := 51) rfl : _ ∈ tables_1_3)))) (by rfl)
set_option maxRecDepth 4000 in
theorem u532 : (Jvm.Cond.methodLink "WeddingRegister" (170 : Nat) ({ cls := "WeddingRegister$Objection", name := "<init>", desc := "(LWeddingRegister$Notice;)V" } : Jvm.MethodName)) ∈ uw := uw_of (List.mem_append_right _ (List.mem_append_right _ (List.mem_append_left _ (List.mem_of_getElem? (i := 52) rfl : _ ∈ tables_1_3)))) (by rfl)
set_option maxRecDepth 4000 in
theorem u533 : (Jvm.Cond.instanceMethod ({ cls := "WeddingRegister$Objection", name := "<init>", desc := "(LWeddingRegister$Notice;)V" } : Jvm.MethodName)) ∈ uw := uw_of (List.mem_append_right _ (List.mem_append_right _ (List.mem_append_left _ (List.mem_of_getElem? (i := 53) rfl : _ ∈ tables_1_3)))) (by rfl)
set_option maxRecDepth 4000 in
theorem u534 : (Jvm.Cond.code ({ cls := "WeddingRegister$Objection", name := "<init>", desc := "(LWeddingRegister$Notice;)V" } : Jvm.MethodName) prog_9_method_1_code (2 : Nat) (Option.none : Option Jvm.ClassFile.FieldType)) ∈ uw := uw_of (List.mem_append_right _ (List.mem_append_right _ (List.mem_append_left _ (List.mem_of_getElem? (i := 54) rfl : _ ∈ tables_1_3)))) (by rfl)
set_option maxRecDepth 4000 in
theorem u535 : (Jvm.Cond.methodLink "WeddingRegister$Objection" (1 : Nat) ({ cls := "java/lang/Object", name := "<init>", desc := "()V" } : Jvm.MethodName)) ∈ uw := uw_of (List.mem_append_right _ (List.mem_append_right _ (List.mem_append_left _ (List.mem_of_getElem? (i := 55) rfl : _ ∈ tables_1_3)))) (by rfl)
set_option maxRecDepth 4000 in
theorem u536 : (Jvm.Cond.fieldLink "WeddingRegister$Objection" (7 : Nat) "WeddingRegister$Objection" "notice" "LWeddingRegister$Notice;") ∈ uw := uw_of (List.mem_append_right _ (List.mem_append_right _ (List.mem_append_left _ (List.mem_of_getElem? (i := 56) rfl : _ ∈ tables_1_3)))) (by rfl)
set_option maxRecDepth 4000 in
theorem u537 : (Jvm.Cond.fieldLink "WeddingRegister" (184 : Nat) "WeddingRegister$Objection" "notice" "LWeddingRegister$Notice;") ∈ uw := uw_of (List.mem_append_right _ (List.mem_append_right _ (List.mem_append_left _ (List.mem_of_getElem? (i := 57) rfl : _ ∈ tables_1_3)))) (by rfl)
set_option maxRecDepth 4000 in
theorem u538 : (Jvm.Cond.fieldLink "WeddingRegister$Objection" (13 : Nat) "WeddingRegister$Objection" "open" "Z") ∈ uw := uw_of (List.mem_append_right _ (List.mem_append_right _ (List.mem_append_left _ (List.mem_of_getElem? (i := 58) rfl : _ ∈ tables_1_3)))) (by rfl)
set_option maxRecDepth 4000 in
theorem u539 : (Jvm.Cond.fieldLink "WeddingRegister" (180 : Nat) "WeddingRegister$Objection" "open" "Z") ∈ uw := uw_of (List.mem_append_right _ (List.mem_append_right _ (List.mem_append_left _ (List.mem_of_getElem? (i := 59) rfl : _ ∈ tables_1_3)))) (by rfl)
set_option maxRecDepth 4000 in
theorem u540 : (Jvm.Cond.laysFinal "WeddingRegister$Objection" "WeddingRegister$Objection" "notice" "LWeddingRegister$Notice;") ∈ uw := uw_of (List.mem_append_right _ (List.mem_append_right _ (List.mem_append_left _ (List.mem_of_getElem? (i := 60) rfl : _ ∈ tables_1_3)))) (by rfl)
set_option maxRecDepth 4000 in
theorem u542 : (Jvm.Cond.lays "WeddingRegister$Objection" "WeddingRegister$Objection" "open" "Z") ∈ uw := uw_of (List.mem_append_right _ (List.mem_append_right _ (List.mem_append_left _ (List.mem_of_getElem? (i := 62) rfl : _ ∈ tables_1_3)))) (by rfl)
set_option maxRecDepth 4000 in
theorem u545 : (Jvm.Cond.methodLink "WeddingRegisterLaw" (68 : Nat) ({ cls := "WeddingRegister", name := "judge", desc := "(IZ)Z" } : Jvm.MethodName)) ∈ uw := uw_of (List.mem_append_right _ (List.mem_append_right _ (List.mem_append_left _ (List.mem_of_getElem? (i := 65) rfl : _ ∈ tables_1_3)))) (by rfl)
set_option maxRecDepth 4000 in
theorem u546 : (Jvm.Cond.instanceMethod ({ cls := "WeddingRegister", name := "judge", desc := "(IZ)Z" } : Jvm.MethodName)) ∈ uw := uw_of (List.mem_append_right _ (List.mem_append_right _ (List.mem_append_left _ (List.mem_of_getElem? (i := 66) rfl : _ ∈ tables_1_3)))) (by rfl)
set_option maxRecDepth 4000 in
theorem u547 : (Jvm.Cond.selects "WeddingRegister" ({ cls := "WeddingRegister", name := "judge", desc := "(IZ)Z" } : Jvm.MethodName) ({ cls := "WeddingRegister", name := "judge", desc := "(IZ)Z" } : Jvm.MethodName)) ∈ uw := uw_of (List.mem_append_right _ (List.mem_append_right _ (List.mem_append_left _ (List.mem_of_getElem? (i := 67) rfl : _ ∈ tables_1_3)))) (by rfl)
set_option maxRecDepth 4000 in
theorem u548 : (Jvm.Cond.code ({ cls := "WeddingRegister", name := "judge", desc := "(IZ)Z" } : Jvm.MethodName) prog_1_method_14_code (4 : Nat) (Option.some Jvm.ClassFile.FieldType.boolean)) ∈ uw := uw_of (List.mem_append_right _ (List.mem_append_right _ (List.mem_append_left _ (List.mem_of_getElem? (i := 68) rfl : _ ∈ tables_1_3)))) (by rfl)
set_option maxRecDepth 4000 in
theorem u549 : (Jvm.Cond.methodLink "WeddingRegisterLaw" (73 : Nat) ({ cls := "WeddingRegister", name := "registrar", desc := "(I)I" } : Jvm.MethodName)) ∈ uw := uw_of (List.mem_append_right _ (List.mem_append_right _ (List.mem_append_left _ (List.mem_of_getElem? (i := 69) rfl : _ ∈ tables_1_3)))) (by rfl)
set_option maxRecDepth 4000 in
theorem u550 : (Jvm.Cond.instanceMethod ({ cls := "WeddingRegister", name := "registrar", desc := "(I)I" } : Jvm.MethodName)) ∈ uw := uw_of (List.mem_append_right _ (List.mem_append_right _ (List.mem_append_left _ (List.mem_of_getElem? (i := 70) rfl : _ ∈ tables_1_3)))) (by rfl)
set_option maxRecDepth 4000 in
theorem u551 : (Jvm.Cond.selects "WeddingRegister" ({ cls := "WeddingRegister", name := "registrar", desc := "(I)I" } : Jvm.MethodName) ({ cls := "WeddingRegister", name := "registrar", desc := "(I)I" } : Jvm.MethodName)) ∈ uw := uw_of (List.mem_append_right _ (List.mem_append_right _ (List.mem_append_left _ (List.mem_of_getElem? (i := 71) rfl : _ ∈ tables_1_3)))) (by rfl)
set_option maxRecDepth 4000 in
theorem u552 : (Jvm.Cond.code ({ cls := "WeddingRegister", name := "registrar", desc := "(I)I" } : Jvm.MethodName) prog_1_method_15_code (3 : Nat) (Option.some Jvm.ClassFile.FieldType.int)) ∈ uw := uw_of (List.mem_append_right _ (List.mem_append_right _ (List.mem_append_left _ (List.mem_of_getElem? (i := 72) rfl : _ ∈ tables_1_3)))) (by rfl)
set_option maxRecDepth 4000 in
theorem u553 : (Jvm.Cond.methodLink "WeddingRegisterLaw" (77 : Nat) ({ cls := "WeddingRegister", name := "book", desc := "(III)I" } : Jvm.MethodName)) ∈ uw := uw_of (List.mem_append_right _ (List.mem_append_right _ (List.mem_append_left _ (List.mem_of_getElem? (i := 73) rfl : _ ∈ tables_1_3)))) (by rfl)
set_option maxRecDepth 4000 in
theorem u554 : (Jvm.Cond.instanceMethod ({ cls := "WeddingRegister", name := "book", desc := "(III)I" } : Jvm.MethodName)) ∈ uw := uw_of (List.mem_append_right _ (List.mem_append_right _ (List.mem_append_left _ (List.mem_of_getElem? (i := 74) rfl : _ ∈ tables_1_3)))) (by rfl)
set_option maxRecDepth 4000 in
theorem u555 : (Jvm.Cond.selects "WeddingRegister" ({ cls := "WeddingRegister", name := "book", desc := "(III)I" } : Jvm.MethodName) ({ cls := "WeddingRegister", name := "book", desc := "(III)I" } : Jvm.MethodName)) ∈ uw := uw_of (List.mem_append_right _ (List.mem_append_right _ (List.mem_append_left _ (List.mem_of_getElem? (i := 75) rfl : _ ∈ tables_1_3)))) (by rfl)
set_option maxRecDepth 4000 in
theorem u556 : (Jvm.Cond.code ({ cls := "WeddingRegister", name := "book", desc := "(III)I" } : Jvm.MethodName) prog_1_method_16_code (6 : Nat) (Option.some Jvm.ClassFile.FieldType.int)) ∈ uw := uw_of (List.mem_append_right _ (List.mem_append_right _ (List.mem_append_left _ (List.mem_of_getElem? (i := 76) rfl : _ ∈ tables_1_3)))) (by rfl)
set_option maxRecDepth 4000 in
theorem u557 : (Jvm.Cond.methodLink "WeddingRegister" (188 : Nat) ({ cls := "WeddingRegister", name := "isDayToCome", desc := "(I)Z" } : Jvm.MethodName)) ∈ uw := uw_of (List.mem_append_right _ (List.mem_append_right _ (List.mem_append_left _ (List.mem_of_getElem? (i := 77) rfl : _ ∈ tables_1_3)))) (by rfl)
set_option maxRecDepth 4000 in
theorem u559 : (Jvm.Cond.instanceMethod ({ cls := "WeddingRegister", name := "isDayToCome", desc := "(I)Z" } : Jvm.MethodName)) ∈ uw := uw_of (List.mem_append_right _ (List.mem_append_right _ (List.mem_append_left _ (List.mem_of_getElem? (i := 79) rfl : _ ∈ tables_1_3)))) (by rfl)
set_option maxRecDepth 4000 in
theorem u560 : (Jvm.Cond.code ({ cls := "WeddingRegister", name := "isDayToCome", desc := "(I)Z" } : Jvm.MethodName) prog_1_method_28_code (2 : Nat) (Option.some Jvm.ClassFile.FieldType.boolean)) ∈ uw := uw_of (List.mem_append_right _ (List.mem_append_right _ (List.mem_append_left _ (List.mem_of_getElem? (i := 80) rfl : _ ∈ tables_1_3)))) (by rfl)
set_option maxRecDepth 4000 in
theorem u561 : (Jvm.Cond.methodLink "WeddingRegister" (191 : Nat) ({ cls := "WeddingRegister", name := "isSlot", desc := "(I)Z" } : Jvm.MethodName)) ∈ uw := uw_of (List.mem_append_right _ (List.mem_append_right _ (List.mem_append_left _ (List.mem_of_getElem? (i := 81) rfl : _ ∈ tables_1_3)))) (by rfl)
set_option maxRecDepth 4000 in
theorem u563 : (Jvm.Cond.instanceMethod ({ cls := "WeddingRegister", name := "isSlot", desc := "(I)Z" } : Jvm.MethodName)) ∈ uw := uw_of (List.mem_append_right _ (List.mem_append_right _ (List.mem_append_left _ (List.mem_of_getElem? (i := 83) rfl : _ ∈ tables_1_3)))) (by rfl)
set_option maxRecDepth 4000 in
theorem u564 : (Jvm.Cond.code ({ cls := "WeddingRegister", name := "isSlot", desc := "(I)Z" } : Jvm.MethodName) prog_1_method_46_code (3 : Nat) (Option.some Jvm.ClassFile.FieldType.boolean)) ∈ uw := uw_of (List.mem_append_right _ (List.mem_append_right _ (List.mem_append_left _ (List.mem_of_getElem? (i := 84) rfl : _ ∈ tables_1_3)))) (by rfl)
set_option maxRecDepth 4000 in
theorem u565 : (Jvm.Cond.methodLink "WeddingRegister" (335 : Nat) ({ cls := "WeddingRegister", name := "hourOf", desc := "(I)I" } : Jvm.MethodName)) ∈ uw := uw_of (List.mem_append_right _ (List.mem_append_right _ (List.mem_append_left _ (List.mem_of_getElem? (i := 85) rfl : _ ∈ tables_1_3)))) (by rfl)
set_option maxRecDepth 4000 in
theorem u566 : (Jvm.Cond.static ({ cls := "WeddingRegister", name := "hourOf", desc := "(I)I" } : Jvm.MethodName)) ∈ uw := uw_of (List.mem_append_right _ (List.mem_append_right _ (List.mem_append_left _ (List.mem_of_getElem? (i := 86) rfl : _ ∈ tables_1_3)))) (by rfl)
set_option maxRecDepth 4000 in
theorem u567 : (Jvm.Cond.code ({ cls := "WeddingRegister", name := "hourOf", desc := "(I)I" } : Jvm.MethodName) prog_1_method_48_code (1 : Nat) (Option.some Jvm.ClassFile.FieldType.int)) ∈ uw := uw_of (List.mem_append_right _ (List.mem_append_right _ (List.mem_append_left _ (List.mem_of_getElem? (i := 87) rfl : _ ∈ tables_1_3)))) (by rfl)
set_option maxRecDepth 4000 in
theorem u568 : (Jvm.Cond.methodLink "WeddingRegister" (338 : Nat) ({ cls := "WeddingRegister", name := "hallOf", desc := "(I)I" } : Jvm.MethodName)) ∈ uw := uw_of (List.mem_append_right _ (List.mem_append_right _ (List.mem_append_left _ (List.mem_of_getElem? (i := 88) rfl : _ ∈ tables_1_3)))) (by rfl)
set_option maxRecDepth 4000 in
theorem u569 : (Jvm.Cond.static ({ cls := "WeddingRegister", name := "hallOf", desc := "(I)I" } : Jvm.MethodName)) ∈ uw := uw_of (List.mem_append_right _ (List.mem_append_right _ (List.mem_append_left _ (List.mem_of_getElem? (i := 89) rfl : _ ∈ tables_1_3)))) (by rfl)
set_option maxRecDepth 4000 in
theorem u570 : (Jvm.Cond.code ({ cls := "WeddingRegister", name := "hallOf", desc := "(I)I" } : Jvm.MethodName) prog_1_method_49_code (1 : Nat) (Option.some Jvm.ClassFile.FieldType.int)) ∈ uw := uw_of (List.mem_append_right _ (List.mem_append_right _ (List.mem_append_left _ (List.mem_of_getElem? (i := 90) rfl : _ ∈ tables_1_3)))) (by rfl)
set_option maxRecDepth 4000 in
theorem u571 : (Jvm.Cond.methodLink "WeddingRegister" (341 : Nat) ({ cls := "WeddingRegister", name := "registrarOf", desc := "(I)I" } : Jvm.MethodName)) ∈ uw := uw_of (List.mem_append_right _ (List.mem_append_right _ (List.mem_append_left _ (List.mem_of_getElem? (i := 91) rfl : _ ∈ tables_1_3)))) (by rfl)
set_option maxRecDepth 4000 in
theorem u572 : (Jvm.Cond.static ({ cls := "WeddingRegister", name := "registrarOf", desc := "(I)I" } : Jvm.MethodName)) ∈ uw := uw_of (List.mem_append_right _ (List.mem_append_right _ (List.mem_append_left _ (List.mem_of_getElem? (i := 92) rfl : _ ∈ tables_1_3)))) (by rfl)
set_option maxRecDepth 4000 in
theorem u573 : (Jvm.Cond.code ({ cls := "WeddingRegister", name := "registrarOf", desc := "(I)I" } : Jvm.MethodName) prog_1_method_50_code (1 : Nat) (Option.some Jvm.ClassFile.FieldType.int)) ∈ uw := uw_of (List.mem_append_right _ (List.mem_append_right _ (List.mem_append_left _ (List.mem_of_getElem? (i := 93) rfl : _ ∈ tables_1_3)))) (by rfl)
set_option maxRecDepth 4000 in
theorem u574 : (Jvm.Cond.methodLink "WeddingRegister" (194 : Nat) ({ cls := "WeddingRegister", name := "barToDay", desc := "(LWeddingRegister$Notice;I)I" } : Jvm.MethodName)) ∈ uw := uw_of (List.mem_append_right _ (List.mem_append_right _ (List.mem_append_left _ (List.mem_of_getElem? (i := 94) rfl : _ ∈ tables_1_3)))) (by rfl)
set_option maxRecDepth 4000 in
theorem u576 : (Jvm.Cond.instanceMethod ({ cls := "WeddingRegister", name := "barToDay", desc := "(LWeddingRegister$Notice;I)I" } : Jvm.MethodName)) ∈ uw := uw_of (List.mem_append_right _ (List.mem_append_right _ (List.mem_append_left _ (List.mem_of_getElem? (i := 96) rfl : _ ∈ tables_1_3)))) (by rfl)
set_option maxRecDepth 4000 in
theorem u577 : (Jvm.Cond.code ({ cls := "WeddingRegister", name := "barToDay", desc := "(LWeddingRegister$Notice;I)I" } : Jvm.MethodName) prog_1_method_52_code (3 : Nat) (Option.some Jvm.ClassFile.FieldType.int)) ∈ uw := uw_of (List.mem_append_right _ (List.mem_append_right _ (List.mem_append_left _ (List.mem_of_getElem? (i := 97) rfl : _ ∈ tables_1_3)))) (by rfl)
set_option maxRecDepth 4000 in
theorem u578 : (Jvm.Cond.methodLink "WeddingRegister" (218 : Nat) ({ cls := "WeddingRegister", name := "isRipeOn", desc := "(LWeddingRegister$Notice;I)Z" } : Jvm.MethodName)) ∈ uw := uw_of (List.mem_append_right _ (List.mem_append_right _ (List.mem_append_left _ (List.mem_of_getElem? (i := 98) rfl : _ ∈ tables_1_3)))) (by rfl)
set_option maxRecDepth 4000 in
theorem u580 : (Jvm.Cond.instanceMethod ({ cls := "WeddingRegister", name := "isRipeOn", desc := "(LWeddingRegister$Notice;I)Z" } : Jvm.MethodName)) ∈ uw := uw_of (List.mem_append_right _ (List.mem_append_right _ (List.mem_append_left _ (List.mem_of_getElem? (i := 100) rfl : _ ∈ tables_1_3)))) (by rfl)
set_option maxRecDepth 4000 in
theorem u581 : (Jvm.Cond.code ({ cls := "WeddingRegister", name := "isRipeOn", desc := "(LWeddingRegister$Notice;I)Z" } : Jvm.MethodName) prog_1_method_44_code (3 : Nat) (Option.some Jvm.ClassFile.FieldType.boolean)) ∈ uw := uw_of (List.mem_append_right _ (List.mem_append_right _ (List.mem_append_left _ (List.mem_of_getElem? (i := 101) rfl : _ ∈ tables_1_3)))) (by rfl)
set_option maxRecDepth 4000 in
theorem u582 : (Jvm.Cond.methodLink "WeddingRegister" (198 : Nat) ({ cls := "WeddingRegister", name := "fillPlan", desc := "(ILWeddingRegister$Notice;)V" } : Jvm.MethodName)) ∈ uw := uw_of (List.mem_append_right _ (List.mem_append_right _ (List.mem_append_left _ (List.mem_of_getElem? (i := 102) rfl : _ ∈ tables_1_3)))) (by rfl)
set_option maxRecDepth 4000 in
theorem u584 : (Jvm.Cond.instanceMethod ({ cls := "WeddingRegister", name := "fillPlan", desc := "(ILWeddingRegister$Notice;)V" } : Jvm.MethodName)) ∈ uw := uw_of (List.mem_append_right _ (List.mem_append_right _ (List.mem_append_left _ (List.mem_of_getElem? (i := 104) rfl : _ ∈ tables_1_3)))) (by rfl)
set_option maxRecDepth 4000 in
theorem u585 : (Jvm.Cond.code ({ cls := "WeddingRegister", name := "fillPlan", desc := "(ILWeddingRegister$Notice;)V" } : Jvm.MethodName) prog_1_method_51_code (5 : Nat) (Option.none : Option Jvm.ClassFile.FieldType)) ∈ uw := uw_of (List.mem_append_right _ (List.mem_append_right _ (List.mem_append_left _ (List.mem_of_getElem? (i := 105) rfl : _ ∈ tables_1_3)))) (by rfl)
set_option maxRecDepth 4000 in
theorem u586 : (Jvm.Cond.methodLink "WeddingRegister" (344 : Nat) ({ cls := "WeddingRegister$DayPlan", name := "clear", desc := "()V" } : Jvm.MethodName)) ∈ uw := uw_of (List.mem_append_right _ (List.mem_append_right _ (List.mem_append_left _ (List.mem_of_getElem? (i := 106) rfl : _ ∈ tables_1_3)))) (by rfl)
set_option maxRecDepth 4000 in
theorem u587 : (Jvm.Cond.instanceMethod ({ cls := "WeddingRegister$DayPlan", name := "clear", desc := "()V" } : Jvm.MethodName)) ∈ uw := uw_of (List.mem_append_right _ (List.mem_append_right _ (List.mem_append_left _ (List.mem_of_getElem? (i := 107) rfl : _ ∈ tables_1_3)))) (by rfl)
set_option maxRecDepth 4000 in
theorem u588 : (Jvm.Cond.selects "WeddingRegister$DayPlan" ({ cls := "WeddingRegister$DayPlan", name := "clear", desc := "()V" } : Jvm.MethodName) ({ cls := "WeddingRegister$DayPlan", name := "clear", desc := "()V" } : Jvm.MethodName)) ∈ uw := uw_of (List.mem_append_right _ (List.mem_append_right _ (List.mem_append_left _ (List.mem_of_getElem? (i := 108) rfl : _ ∈ tables_1_3)))) (by rfl)
set_option maxRecDepth 4000 in
theorem u589 : (Jvm.Cond.code ({ cls := "WeddingRegister$DayPlan", name := "clear", desc := "()V" } : Jvm.MethodName) prog_4_method_2_code (1 : Nat) (Option.none : Option Jvm.ClassFile.FieldType)) ∈ uw := uw_of (List.mem_append_right _ (List.mem_append_right _ (List.mem_append_left _ (List.mem_of_getElem? (i := 109) rfl : _ ∈ tables_1_3)))) (by rfl)
set_option maxRecDepth 4000 in
theorem u590 : (Jvm.Cond.methodLink "WeddingRegister$DayPlan" (18 : Nat) ({ cls := "java/util/Arrays", name := "fill", desc := "([II)V" } : Jvm.MethodName)) ∈ uw := uw_of (List.mem_append_right _ (List.mem_append_right _ (List.mem_append_left _ (List.mem_of_getElem? (i := 110) rfl : _ ∈ tables_1_3)))) (by rfl)
set_option maxRecDepth 4000 in
theorem u591 : (Jvm.Cond.static ({ cls := "java/util/Arrays", name := "fill", desc := "([II)V" } : Jvm.MethodName)) ∈ uw := uw_of (List.mem_append_right _ (List.mem_append_right _ (List.mem_append_left _ (List.mem_of_getElem? (i := 111) rfl : _ ∈ tables_1_3)))) (by rfl)
set_option maxRecDepth 4000 in
theorem u592 : (Jvm.Cond.code ({ cls := "java/util/Arrays", name := "fill", desc := "([II)V" } : Jvm.MethodName) prog_23_method_103_code (4 : Nat) (Option.none : Option Jvm.ClassFile.FieldType)) ∈ uw := uw_of (List.mem_append_right _ (List.mem_append_right _ (List.mem_append_left _ (List.mem_of_getElem? (i := 112) rfl : _ ∈ tables_1_3)))) (by rfl)
set_option maxRecDepth 4000 in
theorem u593 : (Jvm.Cond.methodLink "WeddingRegister" (263 : Nat) ({ cls := "WeddingRegister$Notice", name := "isBooked", desc := "()Z" } : Jvm.MethodName)) ∈ uw := uw_of (List.mem_append_right _ (List.mem_append_right _ (List.mem_append_left _ (List.mem_of_getElem? (i := 113) rfl : _ ∈ tables_1_3)))) (by rfl)
set_option maxRecDepth 4000 in
theorem u594 : (Jvm.Cond.instanceMethod ({ cls := "WeddingRegister$Notice", name := "isBooked", desc := "()Z" } : Jvm.MethodName)) ∈ uw := uw_of (List.mem_append_right _ (List.mem_append_right _ (List.mem_append_left _ (List.mem_of_getElem? (i := 114) rfl : _ ∈ tables_1_3)))) (by rfl)
set_option maxRecDepth 4000 in
theorem u595 : (Jvm.Cond.selects "WeddingRegister$Notice" ({ cls := "WeddingRegister$Notice", name := "isBooked", desc := "()Z" } : Jvm.MethodName) ({ cls := "WeddingRegister$Notice", name := "isBooked", desc := "()Z" } : Jvm.MethodName)) ∈ uw := uw_of (List.mem_append_right _ (List.mem_append_right _ (List.mem_append_left _ (List.mem_of_getElem? (i := 115) rfl : _ ∈ tables_1_3)))) (by rfl)
set_option maxRecDepth 4000 in
theorem u596 : (Jvm.Cond.code ({ cls := "WeddingRegister$Notice", name := "isBooked", desc := "()Z" } : Jvm.MethodName) prog_8_method_3_code (1 : Nat) (Option.some Jvm.ClassFile.FieldType.boolean)) ∈ uw := uw_of (List.mem_append_right _ (List.mem_append_right _ (List.mem_append_left _ (List.mem_of_getElem? (i := 116) rfl : _ ∈ tables_1_3)))) (by rfl)
set_option maxRecDepth 4000 in
theorem u597 : (Jvm.Cond.methodLink "WeddingRegister" (347 : Nat) ({ cls := "WeddingRegister$DayPlan", name := "take", desc := "(I)V" } : Jvm.MethodName)) ∈ uw := uw_of (List.mem_append_right _ (List.mem_append_right _ (List.mem_append_left _ (List.mem_of_getElem? (i := 117) rfl : _ ∈ tables_1_3)))) (by rfl)
set_option maxRecDepth 4000 in
theorem u598 : (Jvm.Cond.instanceMethod ({ cls := "WeddingRegister$DayPlan", name := "take", desc := "(I)V" } : Jvm.MethodName)) ∈ uw := uw_of (List.mem_append_right _ (List.mem_append_right _ (List.mem_append_left _ (List.mem_of_getElem? (i := 118) rfl : _ ∈ tables_1_3)))) (by rfl)
set_option maxRecDepth 4000 in
theorem u599 : (Jvm.Cond.selects "WeddingRegister$DayPlan" ({ cls := "WeddingRegister$DayPlan", name := "take", desc := "(I)V" } : Jvm.MethodName) ({ cls := "WeddingRegister$DayPlan", name := "take", desc := "(I)V" } : Jvm.MethodName)) ∈ uw := uw_of (List.mem_append_right _ (List.mem_append_right _ (List.mem_append_left _ (List.mem_of_getElem? (i := 119) rfl : _ ∈ tables_1_3)))) (by rfl)
set_option maxRecDepth 4000 in
theorem u600 : (Jvm.Cond.code ({ cls := "WeddingRegister$DayPlan", name := "take", desc := "(I)V" } : Jvm.MethodName) prog_4_method_3_code (4 : Nat) (Option.none : Option Jvm.ClassFile.FieldType)) ∈ uw := uw_of (List.mem_append_right _ (List.mem_append_right _ (List.mem_append_left _ (List.mem_of_getElem? (i := 120) rfl : _ ∈ tables_1_3)))) (by rfl)
set_option maxRecDepth 4000 in
theorem u601 : (Jvm.Cond.methodLinkNest "WeddingRegister$DayPlan" (24 : Nat) ({ cls := "WeddingRegister", name := "hourOf", desc := "(I)I" } : Jvm.MethodName) "WeddingRegister") ∈ lw_tbl := List.mem_append_right _ (List.mem_append_right _ (List.mem_append_right _ (List.mem_append_left _ (List.mem_of_getElem? (i := 121) rfl : _ ∈ tables_1_3))))
set_option maxRecDepth 4000 in
theorem u602 : (Jvm.Cond.methodLinkNest "WeddingRegister$DayPlan" (28 : Nat) ({ cls := "WeddingRegister", name := "registrarOf", desc := "(I)I" } : Jvm.MethodName) "WeddingRegister") ∈ lw_tbl := List.mem_append_right _ (List.mem_append_right _ (List.mem_append_right _ (List.mem_append_left _ (List.mem_of_getElem? (i := 122) rfl : _ ∈ tables_1_3))))
set_option maxRecDepth 4000 in
theorem u603 : (Jvm.Cond.methodLink "WeddingRegister$DayPlan" (31 : Nat) ({ cls := "WeddingRegister$DayPlan", name := "placeOf", desc := "(II)I" } : Jvm.MethodName)) ∈ uw := uw_of (List.mem_append_right _ (List.mem_append_right _ (List.mem_append_left _ (List.mem_of_getElem? (i := 123) rfl : _ ∈ tables_1_3)))) (by rfl)
set_option maxRecDepth 4000 in
theorem u605 : (Jvm.Cond.instanceMethod ({ cls := "WeddingRegister$DayPlan", name := "placeOf", desc := "(II)I" } : Jvm.MethodName)) ∈ uw := uw_of (List.mem_append_right _ (List.mem_append_right _ (List.mem_append_left _ (List.mem_of_getElem? (i := 125) rfl : _ ∈ tables_1_3)))) (by rfl)
set_option maxRecDepth 4000 in
theorem u606 : (Jvm.Cond.code ({ cls := "WeddingRegister$DayPlan", name := "placeOf", desc := "(II)I" } : Jvm.MethodName) prog_4_method_7_code (4 : Nat) (Option.some Jvm.ClassFile.FieldType.int)) ∈ uw := uw_of (List.mem_append_right _ (List.mem_append_right _ (List.mem_append_left _ (List.mem_of_getElem? (i := 126) rfl : _ ∈ tables_1_3)))) (by rfl)
set_option maxRecDepth 4000 in
theorem u607 : (Jvm.Cond.methodLinkNest "WeddingRegister$DayPlan" (35 : Nat) ({ cls := "WeddingRegister", name := "hallOf", desc := "(I)I" } : Jvm.MethodName) "WeddingRegister") ∈ lw_tbl := List.mem_append_right _ (List.mem_append_right _ (List.mem_append_right _ (List.mem_append_left _ (List.mem_of_getElem? (i := 127) rfl : _ ∈ tables_1_3))))
set_option maxRecDepth 4000 in
theorem u608 : (Jvm.Cond.methodLink "WeddingRegister" (202 : Nat) ({ cls := "WeddingRegister", name := "barToSlot", desc := "(LWeddingRegister$Notice;I)I" } : Jvm.MethodName)) ∈ uw := uw_of (List.mem_append_right _ (List.mem_append_right _ (List.mem_append_left _ (List.mem_of_getElem? (i := 128) rfl : _ ∈ tables_1_3)))) (by rfl)
set_option maxRecDepth 4000 in
theorem u610 : (Jvm.Cond.instanceMethod ({ cls := "WeddingRegister", name := "barToSlot", desc := "(LWeddingRegister$Notice;I)I" } : Jvm.MethodName)) ∈ uw := uw_of (List.mem_append_right _ (List.mem_append_right _ (List.mem_append_left _ (List.mem_of_getElem? (i := 130) rfl : _ ∈ tables_1_3)))) (by rfl)
set_option maxRecDepth 4000 in
theorem u611 : (Jvm.Cond.code ({ cls := "WeddingRegister", name := "barToSlot", desc := "(LWeddingRegister$Notice;I)I" } : Jvm.MethodName) prog_1_method_53_code (4 : Nat) (Option.some Jvm.ClassFile.FieldType.int)) ∈ uw := uw_of (List.mem_append_right _ (List.mem_append_right _ (List.mem_append_left _ (List.mem_of_getElem? (i := 131) rfl : _ ∈ tables_1_3)))) (by rfl)
set_option maxRecDepth 4000 in
theorem u612 : (Jvm.Cond.methodLink "WeddingRegister" (350 : Nat) ({ cls := "WeddingRegister$DayPlan", name := "barTo", desc := "(I)I" } : Jvm.MethodName)) ∈ uw := uw_of (List.mem_append_right _ (List.mem_append_right _ (List.mem_append_left _ (List.mem_of_getElem? (i := 132) rfl : _ ∈ tables_1_3)))) (by rfl)
set_option maxRecDepth 4000 in
theorem u613 : (Jvm.Cond.instanceMethod ({ cls := "WeddingRegister$DayPlan", name := "barTo", desc := "(I)I" } : Jvm.MethodName)) ∈ uw := uw_of (List.mem_append_right _ (List.mem_append_right _ (List.mem_append_left _ (List.mem_of_getElem? (i := 133) rfl : _ ∈ tables_1_3)))) (by rfl)
set_option maxRecDepth 4000 in
theorem u614 : (Jvm.Cond.selects "WeddingRegister$DayPlan" ({ cls := "WeddingRegister$DayPlan", name := "barTo", desc := "(I)I" } : Jvm.MethodName) ({ cls := "WeddingRegister$DayPlan", name := "barTo", desc := "(I)I" } : Jvm.MethodName)) ∈ uw := uw_of (List.mem_append_right _ (List.mem_append_right _ (List.mem_append_left _ (List.mem_of_getElem? (i := 134) rfl : _ ∈ tables_1_3)))) (by rfl)
set_option maxRecDepth 4000 in
theorem u615 : (Jvm.Cond.code ({ cls := "WeddingRegister$DayPlan", name := "barTo", desc := "(I)I" } : Jvm.MethodName) prog_4_method_4_code (7 : Nat) (Option.some Jvm.ClassFile.FieldType.int)) ∈ uw := uw_of (List.mem_append_right _ (List.mem_append_right _ (List.mem_append_left _ (List.mem_of_getElem? (i := 135) rfl : _ ∈ tables_1_3)))) (by rfl)
set_option maxRecDepth 4000 in
theorem u616 : (Jvm.Cond.methodLink "WeddingRegister$DayPlan" (38 : Nat) ({ cls := "WeddingRegister$DayPlan", name := "isTaken", desc := "(II)Z" } : Jvm.MethodName)) ∈ uw := uw_of (List.mem_append_right _ (List.mem_append_right _ (List.mem_append_left _ (List.mem_of_getElem? (i := 136) rfl : _ ∈ tables_1_3)))) (by rfl)
set_option maxRecDepth 4000 in
theorem u618 : (Jvm.Cond.instanceMethod ({ cls := "WeddingRegister$DayPlan", name := "isTaken", desc := "(II)Z" } : Jvm.MethodName)) ∈ uw := uw_of (List.mem_append_right _ (List.mem_append_right _ (List.mem_append_left _ (List.mem_of_getElem? (i := 138) rfl : _ ∈ tables_1_3)))) (by rfl)
set_option maxRecDepth 4000 in
theorem u619 : (Jvm.Cond.code ({ cls := "WeddingRegister$DayPlan", name := "isTaken", desc := "(II)Z" } : Jvm.MethodName) prog_4_method_5_code (4 : Nat) (Option.some Jvm.ClassFile.FieldType.boolean)) ∈ uw := uw_of (List.mem_append_right _ (List.mem_append_right _ (List.mem_append_left _ (List.mem_of_getElem? (i := 139) rfl : _ ∈ tables_1_3)))) (by rfl)
set_option maxRecDepth 4000 in
theorem u620 : (Jvm.Cond.methodLink "WeddingRegister$DayPlan" (42 : Nat) ({ cls := "WeddingRegister$DayPlan", name := "hallAt", desc := "(II)I" } : Jvm.MethodName)) ∈ uw := uw_of (List.mem_append_right _ (List.mem_append_right _ (List.mem_append_left _ (List.mem_of_getElem? (i := 140) rfl : _ ∈ tables_1_3)))) (by rfl)
set_option maxRecDepth 4000 in
theorem u622 : (Jvm.Cond.instanceMethod ({ cls := "WeddingRegister$DayPlan", name := "hallAt", desc := "(II)I" } : Jvm.MethodName)) ∈ uw := uw_of (List.mem_append_right _ (List.mem_append_right _ (List.mem_append_left _ (List.mem_of_getElem? (i := 142) rfl : _ ∈ tables_1_3)))) (by rfl)
set_option maxRecDepth 4000 in
theorem u623 : (Jvm.Cond.code ({ cls := "WeddingRegister$DayPlan", name := "hallAt", desc := "(II)I" } : Jvm.MethodName) prog_4_method_6_code (4 : Nat) (Option.some Jvm.ClassFile.FieldType.int)) ∈ uw := uw_of (List.mem_append_right _ (List.mem_append_right _ (List.mem_append_left _ (List.mem_of_getElem? (i := 143) rfl : _ ∈ tables_1_3)))) (by rfl)
set_option maxRecDepth 4000 in
theorem u624 : (Jvm.Cond.methodLink "WeddingRegister" (353 : Nat) ({ cls := "WeddingRegister", name := "speaksWithBoth", desc := "(ILWeddingRegister$Notice;)Z" } : Jvm.MethodName)) ∈ uw := uw_of (List.mem_append_right _ (List.mem_append_right _ (List.mem_append_left _ (List.mem_of_getElem? (i := 144) rfl : _ ∈ tables_1_3)))) (by rfl)
set_option maxRecDepth 4000 in
theorem u626 : (Jvm.Cond.instanceMethod ({ cls := "WeddingRegister", name := "speaksWithBoth", desc := "(ILWeddingRegister$Notice;)Z" } : Jvm.MethodName)) ∈ uw := uw_of (List.mem_append_right _ (List.mem_append_right _ (List.mem_append_left _ (List.mem_of_getElem? (i := 146) rfl : _ ∈ tables_1_3)))) (by rfl)
set_option maxRecDepth 4000 in
theorem u627 : (Jvm.Cond.code ({ cls := "WeddingRegister", name := "speaksWithBoth", desc := "(ILWeddingRegister$Notice;)Z" } : Jvm.MethodName) prog_1_method_54_code (4 : Nat) (Option.some Jvm.ClassFile.FieldType.boolean)) ∈ uw := uw_of (List.mem_append_right _ (List.mem_append_right _ (List.mem_append_left _ (List.mem_of_getElem? (i := 147) rfl : _ ∈ tables_1_3)))) (by rfl)
set_option maxRecDepth 4000 in
theorem u628 : (Jvm.Cond.methodLink "WeddingRegisterLaw" (81 : Nat) ({ cls := "WeddingRegister", name := "order", desc := "(I)I" } : Jvm.MethodName)) ∈ uw := uw_of (List.mem_append_right _ (List.mem_append_right _ (List.mem_append_left _ (List.mem_of_getElem? (i := 148) rfl : _ ∈ tables_1_3)))) (by rfl)
set_option maxRecDepth 4000 in
theorem u629 : (Jvm.Cond.instanceMethod ({ cls := "WeddingRegister", name := "order", desc := "(I)I" } : Jvm.MethodName)) ∈ uw := uw_of (List.mem_append_right _ (List.mem_append_right _ (List.mem_append_left _ (List.mem_of_getElem? (i := 149) rfl : _ ∈ tables_1_3)))) (by rfl)
set_option maxRecDepth 4000 in
theorem u630 : (Jvm.Cond.selects "WeddingRegister" ({ cls := "WeddingRegister", name := "order", desc := "(I)I" } : Jvm.MethodName) ({ cls := "WeddingRegister", name := "order", desc := "(I)I" } : Jvm.MethodName)) ∈ uw := uw_of (List.mem_append_right _ (List.mem_append_right _ (List.mem_append_left _ (List.mem_of_getElem? (i := 150) rfl : _ ∈ tables_1_3)))) (by rfl)
set_option maxRecDepth 4000 in
theorem u631 : (Jvm.Cond.code ({ cls := "WeddingRegister", name := "order", desc := "(I)I" } : Jvm.MethodName) prog_1_method_17_code (4 : Nat) (Option.some Jvm.ClassFile.FieldType.int)) ∈ uw := uw_of (List.mem_append_right _ (List.mem_append_right _ (List.mem_append_left _ (List.mem_of_getElem? (i := 151) rfl : _ ∈ tables_1_3)))) (by rfl)
set_option maxRecDepth 4000 in
theorem u632 : (Jvm.Cond.methodLink "WeddingRegister" (205 : Nat) ({ cls := "WeddingRegister", name := "bookByOrder", desc := "(LWeddingRegister$Notice;I)Z" } : Jvm.MethodName)) ∈ uw := uw_of (List.mem_append_right _ (List.mem_append_right _ (List.mem_append_left _ (List.mem_of_getElem? (i := 152) rfl : _ ∈ tables_1_3)))) (by rfl)
set_option maxRecDepth 4000 in
theorem u634 : (Jvm.Cond.instanceMethod ({ cls := "WeddingRegister", name := "bookByOrder", desc := "(LWeddingRegister$Notice;I)Z" } : Jvm.MethodName)) ∈ uw := uw_of (List.mem_append_right _ (List.mem_append_right _ (List.mem_append_left _ (List.mem_of_getElem? (i := 154) rfl : _ ∈ tables_1_3)))) (by rfl)
set_option maxRecDepth 4000 in
theorem u635 : (Jvm.Cond.code ({ cls := "WeddingRegister", name := "bookByOrder", desc := "(LWeddingRegister$Notice;I)Z" } : Jvm.MethodName) prog_1_method_55_code (4 : Nat) (Option.some Jvm.ClassFile.FieldType.boolean)) ∈ uw := uw_of (List.mem_append_right _ (List.mem_append_right _ (List.mem_append_left _ (List.mem_of_getElem? (i := 155) rfl : _ ∈ tables_1_3)))) (by rfl)
set_option maxRecDepth 4000 in
theorem u636 : (Jvm.Cond.methodLink "WeddingRegister" (360 : Nat) ({ cls := "WeddingRegister", name := "firstFreeSlot", desc := "(LWeddingRegister$Notice;)I" } : Jvm.MethodName)) ∈ uw := uw_of (List.mem_append_right _ (List.mem_append_right _ (List.mem_append_left _ (List.mem_of_getElem? (i := 156) rfl : _ ∈ tables_1_3)))) (by rfl)
set_option maxRecDepth 4000 in
theorem u638 : (Jvm.Cond.instanceMethod ({ cls := "WeddingRegister", name := "firstFreeSlot", desc := "(LWeddingRegister$Notice;)I" } : Jvm.MethodName)) ∈ uw := uw_of (List.mem_append_right _ (List.mem_append_right _ (List.mem_append_left _ (List.mem_of_getElem? (i := 158) rfl : _ ∈ tables_1_3)))) (by rfl)
set_option maxRecDepth 4000 in
theorem u639 : (Jvm.Cond.code ({ cls := "WeddingRegister", name := "firstFreeSlot", desc := "(LWeddingRegister$Notice;)I" } : Jvm.MethodName) prog_1_method_56_code (6 : Nat) (Option.some Jvm.ClassFile.FieldType.int)) ∈ uw := uw_of (List.mem_append_right _ (List.mem_append_right _ (List.mem_append_left _ (List.mem_of_getElem? (i := 159) rfl : _ ∈ tables_1_3)))) (by rfl)
set_option maxRecDepth 4000 in
theorem u640 : (Jvm.Cond.methodLink "WeddingRegister" (363 : Nat) ({ cls := "WeddingRegister", name := "slotOf", desc := "(III)I" } : Jvm.MethodName)) ∈ uw := uw_of (List.mem_append_right _ (List.mem_append_right _ (List.mem_append_left _ (List.mem_of_getElem? (i := 160) rfl : _ ∈ tables_1_3)))) (by rfl)
set_option maxRecDepth 4000 in
theorem u641 : (Jvm.Cond.static ({ cls := "WeddingRegister", name := "slotOf", desc := "(III)I" } : Jvm.MethodName)) ∈ uw := uw_of (List.mem_append_right _ (List.mem_append_right _ (List.mem_append_left _ (List.mem_of_getElem? (i := 161) rfl : _ ∈ tables_1_3)))) (by rfl)
set_option maxRecDepth 4000 in
theorem u642 : (Jvm.Cond.code ({ cls := "WeddingRegister", name := "slotOf", desc := "(III)I" } : Jvm.MethodName) prog_1_method_47_code (3 : Nat) (Option.some Jvm.ClassFile.FieldType.int)) ∈ uw := uw_of (List.mem_append_right _ (List.mem_append_right _ (List.mem_append_left _ (List.mem_of_getElem? (i := 162) rfl : _ ∈ tables_1_3)))) (by rfl)
set_option maxRecDepth 4000 in
theorem u643 : (Jvm.Cond.methodLink "WeddingRegisterLaw" (85 : Nat) ({ cls := "WeddingRegister", name := "wed", desc := "(I)I" } : Jvm.MethodName)) ∈ uw := uw_of (List.mem_append_right _ (List.mem_append_right _ (List.mem_append_left _ (List.mem_of_getElem? (i := 163) rfl : _ ∈ tables_1_3)))) (by rfl)
set_option maxRecDepth 4000 in
theorem u644 : (Jvm.Cond.instanceMethod ({ cls := "WeddingRegister", name := "wed", desc := "(I)I" } : Jvm.MethodName)) ∈ uw := uw_of (List.mem_append_right _ (List.mem_append_right _ (List.mem_append_left _ (List.mem_of_getElem? (i := 164) rfl : _ ∈ tables_1_3)))) (by rfl)
set_option maxRecDepth 4000 in
theorem u645 : (Jvm.Cond.selects "WeddingRegister" ({ cls := "WeddingRegister", name := "wed", desc := "(I)I" } : Jvm.MethodName) ({ cls := "WeddingRegister", name := "wed", desc := "(I)I" } : Jvm.MethodName)) ∈ uw := uw_of (List.mem_append_right _ (List.mem_append_right _ (List.mem_append_left _ (List.mem_of_getElem? (i := 165) rfl : _ ∈ tables_1_3)))) (by rfl)
set_option maxRecDepth 4000 in
theorem u646 : (Jvm.Cond.code ({ cls := "WeddingRegister", name := "wed", desc := "(I)I" } : Jvm.MethodName) prog_1_method_18_code (4 : Nat) (Option.some Jvm.ClassFile.FieldType.int)) ∈ uw := uw_of (List.mem_append_right _ (List.mem_append_right _ (List.mem_append_left _ (List.mem_of_getElem? (i := 166) rfl : _ ∈ tables_1_3)))) (by rfl)
set_option maxRecDepth 4000 in
theorem u647 : (Jvm.Cond.classLink "WeddingRegister" (221 : Nat) "WeddingRegister$Entry") ∈ uw := uw_of (List.mem_append_right _ (List.mem_append_right _ (List.mem_append_left _ (List.mem_of_getElem? (i := 167) rfl : _ ∈ tables_1_3)))) (by rfl)
set_option maxRecDepth 4000 in
theorem u648 : (Jvm.Cond.instantiable "WeddingRegister$Entry" (6 : Nat)) ∈ uw := uw_of (List.mem_append_right _ (List.mem_append_right _ (List.mem_append_left _ (List.mem_of_getElem? (i := 168) rfl : _ ∈ tables_1_3)))) (by rfl)
set_option maxRecDepth 4000 in
theorem u649 : (Jvm.Cond.methodLink "WeddingRegister" (223 : Nat) ({ cls := "WeddingRegister$Entry", name := "<init>", desc := "(LWeddingRegister$Notice;I)V" } : Jvm.MethodName)) ∈ uw := uw_of (List.mem_append_right _ (List.mem_append_right _ (List.mem_append_left _ (List.mem_of_getElem? (i := 169) rfl : _ ∈ tables_1_3)))) (by rfl)
set_option maxRecDepth 4000 in
theorem u650 : (Jvm.Cond.instanceMethod ({ cls := "WeddingRegister$Entry", name := "<init>", desc := "(LWeddingRegister$Notice;I)V" } : Jvm.MethodName)) ∈ uw := uw_of (List.mem_append_right _ (List.mem_append_right _ (List.mem_append_left _ (List.mem_of_getElem? (i := 170) rfl : _ ∈ tables_1_3)))) (by rfl)
set_option maxRecDepth 4000 in
theorem u651 : (Jvm.Cond.code ({ cls := "WeddingRegister$Entry", name := "<init>", desc := "(LWeddingRegister$Notice;I)V" } : Jvm.MethodName) prog_5_method_1_code (3 : Nat) (Option.none : Option Jvm.ClassFile.FieldType)) ∈ uw := uw_of (List.mem_append_right _ (List.mem_append_right _ (List.mem_append_left _ (List.mem_of_getElem? (i := 171) rfl : _ ∈ tables_1_3)))) (by rfl)
set_option maxRecDepth 4000 in
theorem u652 : (Jvm.Cond.methodLink "WeddingRegister$Entry" (3 : Nat) ({ cls := "java/lang/Object", name := "<init>", desc := "()V" } : Jvm.MethodName)) ∈ uw := uw_of (List.mem_append_right _ (List.mem_append_right _ (List.mem_append_left _ (List.mem_of_getElem? (i := 172) rfl : _ ∈ tables_1_3)))) (by rfl)
set_option maxRecDepth 4000 in
theorem u653 : (Jvm.Cond.methodLinkNest "WeddingRegister$Entry" (42 : Nat) ({ cls := "WeddingRegister", name := "hallOf", desc := "(I)I" } : Jvm.MethodName) "WeddingRegister") ∈ lw_tbl := List.mem_append_right _ (List.mem_append_right _ (List.mem_append_right _ (List.mem_append_left _ (List.mem_of_getElem? (i := 173) rfl : _ ∈ tables_1_3))))
set_option maxRecDepth 4000 in
theorem u654 : (Jvm.Cond.methodLinkNest "WeddingRegister$Entry" (49 : Nat) ({ cls := "WeddingRegister", name := "registrarOf", desc := "(I)I" } : Jvm.MethodName) "WeddingRegister") ∈ lw_tbl := List.mem_append_right _ (List.mem_append_right _ (List.mem_append_right _ (List.mem_append_left _ (List.mem_of_getElem? (i := 174) rfl : _ ∈ tables_1_3))))
set_option maxRecDepth 4000 in
theorem u655 : (Jvm.Cond.fieldLink "WeddingRegister$Entry" (9 : Nat) "WeddingRegister$Entry" "notice" "LWeddingRegister$Notice;") ∈ uw := uw_of (List.mem_append_right _ (List.mem_append_right _ (List.mem_append_left _ (List.mem_of_getElem? (i := 175) rfl : _ ∈ tables_1_3)))) (by rfl)
set_option maxRecDepth 4000 in
theorem u656 : (Jvm.Cond.fieldLink "WeddingRegister" (367 : Nat) "WeddingRegister$Entry" "notice" "LWeddingRegister$Notice;") ∈ uw := uw_of (List.mem_append_right _ (List.mem_append_right _ (List.mem_append_left _ (List.mem_of_getElem? (i := 176) rfl : _ ∈ tables_1_3)))) (by rfl)
set_option maxRecDepth 4000 in
theorem u657 : (Jvm.Cond.fieldLink "WeddingRegister$Entry" (15 : Nat) "WeddingRegister$Entry" "day" "I") ∈ uw := uw_of (List.mem_append_right _ (List.mem_append_right _ (List.mem_append_left _ (List.mem_of_getElem? (i := 177) rfl : _ ∈ tables_1_3)))) (by rfl)
set_option maxRecDepth 4000 in
theorem u658 : (Jvm.Cond.fieldLink "WeddingRegister" (233 : Nat) "WeddingRegister$Entry" "day" "I") ∈ uw := uw_of (List.mem_append_right _ (List.mem_append_right _ (List.mem_append_left _ (List.mem_of_getElem? (i := 178) rfl : _ ∈ tables_1_3)))) (by rfl)
set_option maxRecDepth 4000 in
theorem u659 : (Jvm.Cond.fieldLink "WeddingRegister$Entry" (30 : Nat) "WeddingRegister$Entry" "firstName" "I") ∈ uw := uw_of (List.mem_append_right _ (List.mem_append_right _ (List.mem_append_left _ (List.mem_of_getElem? (i := 179) rfl : _ ∈ tables_1_3)))) (by rfl)
set_option maxRecDepth 4000 in
theorem u660 : (Jvm.Cond.fieldLink "WeddingRegister" (371 : Nat) "WeddingRegister$Entry" "firstName" "I") ∈ uw := uw_of (List.mem_append_right _ (List.mem_append_right _ (List.mem_append_left _ (List.mem_of_getElem? (i := 180) rfl : _ ∈ tables_1_3)))) (by rfl)
set_option maxRecDepth 4000 in
theorem u661 : (Jvm.Cond.fieldLink "WeddingRegister$Entry" (36 : Nat) "WeddingRegister$Entry" "secondName" "I") ∈ uw := uw_of (List.mem_append_right _ (List.mem_append_right _ (List.mem_append_left _ (List.mem_of_getElem? (i := 181) rfl : _ ∈ tables_1_3)))) (by rfl)
set_option maxRecDepth 4000 in
theorem u662 : (Jvm.Cond.fieldLink "WeddingRegister" (374 : Nat) "WeddingRegister$Entry" "secondName" "I") ∈ uw := uw_of (List.mem_append_right _ (List.mem_append_right _ (List.mem_append_left _ (List.mem_of_getElem? (i := 182) rfl : _ ∈ tables_1_3)))) (by rfl)
set_option maxRecDepth 4000 in
theorem u663 : (Jvm.Cond.fieldLink "WeddingRegister$Entry" (46 : Nat) "WeddingRegister$Entry" "hall" "I") ∈ uw := uw_of (List.mem_append_right _ (List.mem_append_right _ (List.mem_append_left _ (List.mem_of_getElem? (i := 183) rfl : _ ∈ tables_1_3)))) (by rfl)
set_option maxRecDepth 4000 in
theorem u664 : (Jvm.Cond.fieldLink "WeddingRegister$Entry" (52 : Nat) "WeddingRegister$Entry" "registrar" "I") ∈ uw := uw_of (List.mem_append_right _ (List.mem_append_right _ (List.mem_append_left _ (List.mem_of_getElem? (i := 184) rfl : _ ∈ tables_1_3)))) (by rfl)
set_option maxRecDepth 4000 in
theorem u665 : (Jvm.Cond.laysFinal "WeddingRegister$Entry" "WeddingRegister$Entry" "notice" "LWeddingRegister$Notice;") ∈ uw := uw_of (List.mem_append_right _ (List.mem_append_right _ (List.mem_append_left _ (List.mem_of_getElem? (i := 185) rfl : _ ∈ tables_1_3)))) (by rfl)
set_option maxRecDepth 4000 in
theorem u667 : (Jvm.Cond.laysFinal "WeddingRegister$Entry" "WeddingRegister$Entry" "day" "I") ∈ uw := uw_of (List.mem_append_right _ (List.mem_append_right _ (List.mem_append_left _ (List.mem_of_getElem? (i := 187) rfl : _ ∈ tables_1_3)))) (by rfl)
set_option maxRecDepth 4000 in
theorem u669 : (Jvm.Cond.laysFinal "WeddingRegister$Entry" "WeddingRegister$Entry" "firstName" "I") ∈ uw := uw_of (List.mem_append_right _ (List.mem_append_right _ (List.mem_append_left _ (List.mem_of_getElem? (i := 189) rfl : _ ∈ tables_1_3)))) (by rfl)
set_option maxRecDepth 4000 in
theorem u671 : (Jvm.Cond.laysFinal "WeddingRegister$Entry" "WeddingRegister$Entry" "secondName" "I") ∈ uw := uw_of (List.mem_append_right _ (List.mem_append_right _ (List.mem_append_left _ (List.mem_of_getElem? (i := 191) rfl : _ ∈ tables_1_3)))) (by rfl)
set_option maxRecDepth 4000 in
theorem u673 : (Jvm.Cond.laysFinal "WeddingRegister$Entry" "WeddingRegister$Entry" "hall" "I") ∈ uw := uw_of (List.mem_append_right _ (List.mem_append_right _ (List.mem_append_left _ (List.mem_of_getElem? (i := 193) rfl : _ ∈ tables_1_3)))) (by rfl)
set_option maxRecDepth 4000 in
theorem u675 : (Jvm.Cond.laysFinal "WeddingRegister$Entry" "WeddingRegister$Entry" "registrar" "I") ∈ uw := uw_of (List.mem_append_right _ (List.mem_append_right _ (List.mem_append_left _ (List.mem_of_getElem? (i := 195) rfl : _ ∈ tables_1_3)))) (by rfl)
set_option maxRecDepth 4000 in
theorem u678 : (Jvm.Cond.methodLink "WeddingRegisterLaw" (89 : Nat) ({ cls := "WeddingRegister", name := "part", desc := "(I)Z" } : Jvm.MethodName)) ∈ uw := uw_of (List.mem_append_right _ (List.mem_append_right _ (List.mem_append_left _ (List.mem_of_getElem? (i := 198) rfl : _ ∈ tables_1_3)))) (by rfl)
set_option maxRecDepth 4000 in
theorem u679 : (Jvm.Cond.instanceMethod ({ cls := "WeddingRegister", name := "part", desc := "(I)Z" } : Jvm.MethodName)) ∈ uw := uw_of (List.mem_append_right _ (List.mem_append_right _ (List.mem_append_left _ (List.mem_of_getElem? (i := 199) rfl : _ ∈ tables_1_3)))) (by rfl)
set_option maxRecDepth 4000 in
theorem u680 : (Jvm.Cond.selects "WeddingRegister" ({ cls := "WeddingRegister", name := "part", desc := "(I)Z" } : Jvm.MethodName) ({ cls := "WeddingRegister", name := "part", desc := "(I)Z" } : Jvm.MethodName)) ∈ uw := uw_of (List.mem_append_right _ (List.mem_append_right _ (List.mem_append_left _ (List.mem_of_getElem? (i := 200) rfl : _ ∈ tables_1_3)))) (by rfl)
set_option maxRecDepth 4000 in
theorem u681 : (Jvm.Cond.code ({ cls := "WeddingRegister", name := "part", desc := "(I)Z" } : Jvm.MethodName) prog_1_method_19_code (4 : Nat) (Option.some Jvm.ClassFile.FieldType.boolean)) ∈ uw := uw_of (List.mem_append_right _ (List.mem_append_right _ (List.mem_append_left _ (List.mem_of_getElem? (i := 201) rfl : _ ∈ tables_1_3)))) (by rfl)
set_option maxRecDepth 4000 in
theorem u682 : (Jvm.Cond.methodLink "WeddingRegisterLaw" (93 : Nat) ({ cls := "WeddingRegister", name := "correct", desc := "(III)Z" } : Jvm.MethodName)) ∈ uw := uw_of (List.mem_append_right _ (List.mem_append_right _ (List.mem_append_left _ (List.mem_of_getElem? (i := 202) rfl : _ ∈ tables_1_3)))) (by rfl)
set_option maxRecDepth 4000 in
theorem u683 : (Jvm.Cond.instanceMethod ({ cls := "WeddingRegister", name := "correct", desc := "(III)Z" } : Jvm.MethodName)) ∈ uw := uw_of (List.mem_append_right _ (List.mem_append_right _ (List.mem_append_left _ (List.mem_of_getElem? (i := 203) rfl : _ ∈ tables_1_3)))) (by rfl)
set_option maxRecDepth 4000 in
theorem u684 : (Jvm.Cond.selects "WeddingRegister" ({ cls := "WeddingRegister", name := "correct", desc := "(III)Z" } : Jvm.MethodName) ({ cls := "WeddingRegister", name := "correct", desc := "(III)Z" } : Jvm.MethodName)) ∈ uw := uw_of (List.mem_append_right _ (List.mem_append_right _ (List.mem_append_left _ (List.mem_of_getElem? (i := 204) rfl : _ ∈ tables_1_3)))) (by rfl)
set_option maxRecDepth 4000 in
theorem u685 : (Jvm.Cond.code ({ cls := "WeddingRegister", name := "correct", desc := "(III)Z" } : Jvm.MethodName) prog_1_method_20_code (5 : Nat) (Option.some Jvm.ClassFile.FieldType.boolean)) ∈ uw := uw_of (List.mem_append_right _ (List.mem_append_right _ (List.mem_append_left _ (List.mem_of_getElem? (i := 205) rfl : _ ∈ tables_1_3)))) (by rfl)
set_option maxRecDepth 4000 in
theorem u686 : (Jvm.Cond.methodLink "WeddingRegister" (226 : Nat) ({ cls := "WeddingRegister", name := "entryAt", desc := "(I)LWeddingRegister$Entry;" } : Jvm.MethodName)) ∈ uw := uw_of (List.mem_append_right _ (List.mem_append_right _ (List.mem_append_left _ (List.mem_of_getElem? (i := 206) rfl : _ ∈ tables_1_3)))) (by rfl)
set_option maxRecDepth 4000 in
theorem u688 : (Jvm.Cond.instanceMethod ({ cls := "WeddingRegister", name := "entryAt", desc := "(I)LWeddingRegister$Entry;" } : Jvm.MethodName)) ∈ uw := uw_of (List.mem_append_right _ (List.mem_append_right _ (List.mem_append_left _ (List.mem_of_getElem? (i := 208) rfl : _ ∈ tables_1_3)))) (by rfl)
set_option maxRecDepth 4000 in
theorem u689 : (Jvm.Cond.code ({ cls := "WeddingRegister", name := "entryAt", desc := "(I)LWeddingRegister$Entry;" } : Jvm.MethodName) prog_1_method_31_code (2 : Nat) (Option.some (Jvm.ClassFile.FieldType.object "WeddingRegister$Entry"))) ∈ uw := uw_of (List.mem_append_right _ (List.mem_append_right _ (List.mem_append_left _ (List.mem_of_getElem? (i := 209) rfl : _ ∈ tables_1_3)))) (by rfl)
set_option maxRecDepth 4000 in
theorem u690 : (Jvm.Cond.classLink "WeddingRegister" (230 : Nat) "WeddingRegister$Correction") ∈ uw := uw_of (List.mem_append_right _ (List.mem_append_right _ (List.mem_append_left _ (List.mem_of_getElem? (i := 210) rfl : _ ∈ tables_1_3)))) (by rfl)
set_option maxRecDepth 4000 in
theorem u691 : (Jvm.Cond.instantiable "WeddingRegister$Correction" (4 : Nat)) ∈ uw := uw_of (List.mem_append_right _ (List.mem_append_right _ (List.mem_append_left _ (List.mem_of_getElem? (i := 211) rfl : _ ∈ tables_1_3)))) (by rfl)
set_option maxRecDepth 4000 in
theorem u692 : (Jvm.Cond.methodLink "WeddingRegister" (232 : Nat) ({ cls := "WeddingRegister$Correction", name := "<init>", desc := "(IIII)V" } : Jvm.MethodName)) ∈ uw := uw_of (List.mem_append_right _ (List.mem_append_right _ (List.mem_append_left _ (List.mem_of_getElem? (i := 212) rfl : _ ∈ tables_1_3)))) (by rfl)
set_option maxRecDepth 4000 in
theorem u693 : (Jvm.Cond.instanceMethod ({ cls := "WeddingRegister$Correction", name := "<init>", desc := "(IIII)V" } : Jvm.MethodName)) ∈ uw := uw_of (List.mem_append_right _ (List.mem_append_right _ (List.mem_append_left _ (List.mem_of_getElem? (i := 213) rfl : _ ∈ tables_1_3)))) (by rfl)
set_option maxRecDepth 4000 in
theorem u694 : (Jvm.Cond.code ({ cls := "WeddingRegister$Correction", name := "<init>", desc := "(IIII)V" } : Jvm.MethodName) prog_3_method_1_code (5 : Nat) (Option.none : Option Jvm.ClassFile.FieldType)) ∈ uw := uw_of (List.mem_append_right _ (List.mem_append_right _ (List.mem_append_left _ (List.mem_of_getElem? (i := 214) rfl : _ ∈ tables_1_3)))) (by rfl)
set_option maxRecDepth 4000 in
theorem u695 : (Jvm.Cond.methodLink "WeddingRegister$Correction" (1 : Nat) ({ cls := "java/lang/Object", name := "<init>", desc := "()V" } : Jvm.MethodName)) ∈ uw := uw_of (List.mem_append_right _ (List.mem_append_right _ (List.mem_append_left _ (List.mem_of_getElem? (i := 215) rfl : _ ∈ tables_1_3)))) (by rfl)
set_option maxRecDepth 4000 in
theorem u696 : (Jvm.Cond.fieldLink "WeddingRegister$Correction" (7 : Nat) "WeddingRegister$Correction" "entry" "I") ∈ uw := uw_of (List.mem_append_right _ (List.mem_append_right _ (List.mem_append_left _ (List.mem_of_getElem? (i := 216) rfl : _ ∈ tables_1_3)))) (by rfl)
set_option maxRecDepth 4000 in
theorem u697 : (Jvm.Cond.fieldLink "WeddingRegister" (236 : Nat) "WeddingRegister$Correction" "entry" "I") ∈ uw := uw_of (List.mem_append_right _ (List.mem_append_right _ (List.mem_append_left _ (List.mem_of_getElem? (i := 217) rfl : _ ∈ tables_1_3)))) (by rfl)
set_option maxRecDepth 4000 in
theorem u698 : (Jvm.Cond.fieldLink "WeddingRegister$Correction" (13 : Nat) "WeddingRegister$Correction" "field" "I") ∈ uw := uw_of (List.mem_append_right _ (List.mem_append_right _ (List.mem_append_left _ (List.mem_of_getElem? (i := 218) rfl : _ ∈ tables_1_3)))) (by rfl)
set_option maxRecDepth 4000 in
theorem u699 : (Jvm.Cond.fieldLink "WeddingRegister" (239 : Nat) "WeddingRegister$Correction" "field" "I") ∈ uw := uw_of (List.mem_append_right _ (List.mem_append_right _ (List.mem_append_left _ (List.mem_of_getElem? (i := 219) rfl : _ ∈ tables_1_3)))) (by rfl)
set_option maxRecDepth 4000 in
theorem u700 : (Jvm.Cond.fieldLink "WeddingRegister$Correction" (16 : Nat) "WeddingRegister$Correction" "value" "I") ∈ uw := uw_of (List.mem_append_right _ (List.mem_append_right _ (List.mem_append_left _ (List.mem_of_getElem? (i := 220) rfl : _ ∈ tables_1_3)))) (by rfl)
set_option maxRecDepth 4000 in
theorem u701 : (Jvm.Cond.fieldLink "WeddingRegister" (243 : Nat) "WeddingRegister$Correction" "value" "I") ∈ uw := uw_of (List.mem_append_right _ (List.mem_append_right _ (List.mem_append_left _ (List.mem_of_getElem? (i := 221) rfl : _ ∈ tables_1_3)))) (by rfl)
set_option maxRecDepth 4000 in
theorem u702 : (Jvm.Cond.fieldLink "WeddingRegister$Correction" (19 : Nat) "WeddingRegister$Correction" "day" "I") ∈ uw := uw_of (List.mem_append_right _ (List.mem_append_right _ (List.mem_append_left _ (List.mem_of_getElem? (i := 222) rfl : _ ∈ tables_1_3)))) (by rfl)
set_option maxRecDepth 4000 in
theorem u703 : (Jvm.Cond.fieldLink "WeddingRegister" (242 : Nat) "WeddingRegister$Correction" "day" "I") ∈ uw := uw_of (List.mem_append_right _ (List.mem_append_right _ (List.mem_append_left _ (List.mem_of_getElem? (i := 223) rfl : _ ∈ tables_1_3)))) (by rfl)
set_option maxRecDepth 4000 in
theorem u704 : (Jvm.Cond.laysFinal "WeddingRegister$Correction" "WeddingRegister$Correction" "entry" "I") ∈ uw := uw_of (List.mem_append_right _ (List.mem_append_right _ (List.mem_append_left _ (List.mem_of_getElem? (i := 224) rfl : _ ∈ tables_1_3)))) (by rfl)
set_option maxRecDepth 4000 in
theorem u706 : (Jvm.Cond.laysFinal "WeddingRegister$Correction" "WeddingRegister$Correction" "field" "I") ∈ uw := uw_of (List.mem_append_right _ (List.mem_append_right _ (List.mem_append_left _ (List.mem_of_getElem? (i := 226) rfl : _ ∈ tables_1_3)))) (by rfl)
set_option maxRecDepth 4000 in
theorem u708 : (Jvm.Cond.laysFinal "WeddingRegister$Correction" "WeddingRegister$Correction" "value" "I") ∈ uw := uw_of (List.mem_append_right _ (List.mem_append_right _ (List.mem_append_left _ (List.mem_of_getElem? (i := 228) rfl : _ ∈ tables_1_3)))) (by rfl)
set_option maxRecDepth 4000 in
theorem u710 : (Jvm.Cond.laysFinal "WeddingRegister$Correction" "WeddingRegister$Correction" "day" "I") ∈ uw := uw_of (List.mem_append_right _ (List.mem_append_right _ (List.mem_append_left _ (List.mem_of_getElem? (i := 230) rfl : _ ∈ tables_1_3)))) (by rfl)
set_option maxRecDepth 4000 in
theorem u713 : (Jvm.Cond.methodLink "WeddingRegisterLaw" (97 : Nat) ({ cls := "WeddingRegister", name := "entry", desc := "(III)I" } : Jvm.MethodName)) ∈ uw := uw_of (List.mem_append_right _ (List.mem_append_right _ (List.mem_append_left _ (List.mem_of_getElem? (i := 233) rfl : _ ∈ tables_1_3)))) (by rfl)
set_option maxRecDepth 4000 in
theorem u714 : (Jvm.Cond.instanceMethod ({ cls := "WeddingRegister", name := "entry", desc := "(III)I" } : Jvm.MethodName)) ∈ uw := uw_of (List.mem_append_right _ (List.mem_append_right _ (List.mem_append_left _ (List.mem_of_getElem? (i := 234) rfl : _ ∈ tables_1_3)))) (by rfl)
set_option maxRecDepth 4000 in
theorem u715 : (Jvm.Cond.selects "WeddingRegister" ({ cls := "WeddingRegister", name := "entry", desc := "(III)I" } : Jvm.MethodName) ({ cls := "WeddingRegister", name := "entry", desc := "(III)I" } : Jvm.MethodName)) ∈ uw := uw_of (List.mem_append_right _ (List.mem_append_right _ (List.mem_append_left _ (List.mem_of_getElem? (i := 235) rfl : _ ∈ tables_1_3)))) (by rfl)
set_option maxRecDepth 4000 in
theorem u716 : (Jvm.Cond.code ({ cls := "WeddingRegister", name := "entry", desc := "(III)I" } : Jvm.MethodName) prog_1_method_21_code (7 : Nat) (Option.some Jvm.ClassFile.FieldType.int)) ∈ uw := uw_of (List.mem_append_right _ (List.mem_append_right _ (List.mem_append_left _ (List.mem_of_getElem? (i := 236) rfl : _ ∈ tables_1_3)))) (by rfl)
set_option maxRecDepth 4000 in
theorem u717 : (Jvm.Cond.methodLink "WeddingRegister" (246 : Nat) ({ cls := "WeddingRegister$Entry", name := "written", desc := "(I)I" } : Jvm.MethodName)) ∈ uw := uw_of (List.mem_append_right _ (List.mem_append_right _ (List.mem_append_left _ (List.mem_of_getElem? (i := 237) rfl : _ ∈ tables_1_3)))) (by rfl)
set_option maxRecDepth 4000 in
theorem u718 : (Jvm.Cond.instanceMethod ({ cls := "WeddingRegister$Entry", name := "written", desc := "(I)I" } : Jvm.MethodName)) ∈ uw := uw_of (List.mem_append_right _ (List.mem_append_right _ (List.mem_append_left _ (List.mem_of_getElem? (i := 238) rfl : _ ∈ tables_1_3)))) (by rfl)
set_option maxRecDepth 4000 in
theorem u719 : (Jvm.Cond.selects "WeddingRegister$Entry" ({ cls := "WeddingRegister$Entry", name := "written", desc := "(I)I" } : Jvm.MethodName) ({ cls := "WeddingRegister$Entry", name := "written", desc := "(I)I" } : Jvm.MethodName)) ∈ uw := uw_of (List.mem_append_right _ (List.mem_append_right _ (List.mem_append_left _ (List.mem_of_getElem? (i := 239) rfl : _ ∈ tables_1_3)))) (by rfl)
set_option maxRecDepth 4000 in
theorem u720 : (Jvm.Cond.code ({ cls := "WeddingRegister$Entry", name := "written", desc := "(I)I" } : Jvm.MethodName) prog_5_method_2_code (2 : Nat) (Option.some Jvm.ClassFile.FieldType.int)) ∈ uw := uw_of (List.mem_append_right _ (List.mem_append_right _ (List.mem_append_right _ (List.mem_append_left _ (List.mem_of_getElem? (i := 0) rfl : _ ∈ tables_1_4))))) (by rfl)
set_option maxRecDepth 4000 in
theorem u721 : (Jvm.Cond.methodLink "WeddingRegisterLaw" (101 : Nat) ({ cls := "WeddingRegister", name := "name", desc := "(III)I" } : Jvm.MethodName)) ∈ uw := uw_of (List.mem_append_right _ (List.mem_append_right _ (List.mem_append_right _ (List.mem_append_left _ (List.mem_of_getElem? (i := 1) rfl : _ ∈ tables_1_4))))) (by rfl)
set_option maxRecDepth 4000 in
theorem u722 : (Jvm.Cond.instanceMethod ({ cls := "WeddingRegister", name := "name", desc := "(III)I" } : Jvm.MethodName)) ∈ uw := uw_of (List.mem_append_right _ (List.mem_append_right _ (List.mem_append_right _ (List.mem_append_left _ (List.mem_of_getElem? (i := 2) rfl : _ ∈ tables_1_4))))) (by rfl)
set_option maxRecDepth 4000 in
theorem u723 : (Jvm.Cond.selects "WeddingRegister" ({ cls := "WeddingRegister", name := "name", desc := "(III)I" } : Jvm.MethodName) ({ cls := "WeddingRegister", name := "name", desc := "(III)I" } : Jvm.MethodName)) ∈ uw := uw_of (List.mem_append_right _ (List.mem_append_right _ (List.mem_append_right _ (List.mem_append_left _ (List.mem_of_getElem? (i := 3) rfl : _ ∈ tables_1_4))))) (by rfl)
set_option maxRecDepth 4000 in
theorem u724 : (Jvm.Cond.code ({ cls := "WeddingRegister", name := "name", desc := "(III)I" } : Jvm.MethodName) prog_1_method_22_code (5 : Nat) (Option.some Jvm.ClassFile.FieldType.int)) ∈ uw := uw_of (List.mem_append_right _ (List.mem_append_right _ (List.mem_append_right _ (List.mem_append_left _ (List.mem_of_getElem? (i := 4) rfl : _ ∈ tables_1_4))))) (by rfl)
set_option maxRecDepth 4000 in
theorem u725 : (Jvm.Cond.methodLink "WeddingRegister" (250 : Nat) ({ cls := "WeddingRegister", name := "nameAfter", desc := "(LWeddingRegister$Entry;II)I" } : Jvm.MethodName)) ∈ uw := uw_of (List.mem_append_right _ (List.mem_append_right _ (List.mem_append_right _ (List.mem_append_left _ (List.mem_of_getElem? (i := 5) rfl : _ ∈ tables_1_4))))) (by rfl)
set_option maxRecDepth 4000 in
theorem u727 : (Jvm.Cond.instanceMethod ({ cls := "WeddingRegister", name := "nameAfter", desc := "(LWeddingRegister$Entry;II)I" } : Jvm.MethodName)) ∈ uw := uw_of (List.mem_append_right _ (List.mem_append_right _ (List.mem_append_right _ (List.mem_append_left _ (List.mem_of_getElem? (i := 7) rfl : _ ∈ tables_1_4))))) (by rfl)
set_option maxRecDepth 4000 in
theorem u728 : (Jvm.Cond.code ({ cls := "WeddingRegister", name := "nameAfter", desc := "(LWeddingRegister$Entry;II)I" } : Jvm.MethodName) prog_1_method_57_code (6 : Nat) (Option.some Jvm.ClassFile.FieldType.int)) ∈ uw := uw_of (List.mem_append_right _ (List.mem_append_right _ (List.mem_append_right _ (List.mem_append_left _ (List.mem_of_getElem? (i := 8) rfl : _ ∈ tables_1_4))))) (by rfl)
set_option maxRecDepth 4000 in
theorem u729 : (Jvm.Cond.methodLink "WeddingRegisterLaw" (105 : Nat) ({ cls := "WeddingRegister", name := "quarrel", desc := "(I)Z" } : Jvm.MethodName)) ∈ uw := uw_of (List.mem_append_right _ (List.mem_append_right _ (List.mem_append_right _ (List.mem_append_left _ (List.mem_of_getElem? (i := 9) rfl : _ ∈ tables_1_4))))) (by rfl)
set_option maxRecDepth 4000 in
theorem u730 : (Jvm.Cond.instanceMethod ({ cls := "WeddingRegister", name := "quarrel", desc := "(I)Z" } : Jvm.MethodName)) ∈ uw := uw_of (List.mem_append_right _ (List.mem_append_right _ (List.mem_append_right _ (List.mem_append_left _ (List.mem_of_getElem? (i := 10) rfl : _ ∈ tables_1_4))))) (by rfl)
set_option maxRecDepth 4000 in
theorem u731 : (Jvm.Cond.selects "WeddingRegister" ({ cls := "WeddingRegister", name := "quarrel", desc := "(I)Z" } : Jvm.MethodName) ({ cls := "WeddingRegister", name := "quarrel", desc := "(I)Z" } : Jvm.MethodName)) ∈ uw := uw_of (List.mem_append_right _ (List.mem_append_right _ (List.mem_append_right _ (List.mem_append_left _ (List.mem_of_getElem? (i := 11) rfl : _ ∈ tables_1_4))))) (by rfl)
set_option maxRecDepth 4000 in
theorem u732 : (Jvm.Cond.code ({ cls := "WeddingRegister", name := "quarrel", desc := "(I)Z" } : Jvm.MethodName) prog_1_method_23_code (3 : Nat) (Option.some Jvm.ClassFile.FieldType.boolean)) ∈ uw := uw_of (List.mem_append_right _ (List.mem_append_right _ (List.mem_append_right _ (List.mem_append_left _ (List.mem_of_getElem? (i := 12) rfl : _ ∈ tables_1_4))))) (by rfl)
set_option maxRecDepth 4000 in
theorem u733 : (Jvm.Cond.methodLink "WeddingRegisterLaw" (109 : Nat) ({ cls := "WeddingRegister", name := "told", desc := "(II)I" } : Jvm.MethodName)) ∈ uw := uw_of (List.mem_append_right _ (List.mem_append_right _ (List.mem_append_right _ (List.mem_append_left _ (List.mem_of_getElem? (i := 13) rfl : _ ∈ tables_1_4))))) (by rfl)
set_option maxRecDepth 4000 in
theorem u734 : (Jvm.Cond.instanceMethod ({ cls := "WeddingRegister", name := "told", desc := "(II)I" } : Jvm.MethodName)) ∈ uw := uw_of (List.mem_append_right _ (List.mem_append_right _ (List.mem_append_right _ (List.mem_append_left _ (List.mem_of_getElem? (i := 14) rfl : _ ∈ tables_1_4))))) (by rfl)
set_option maxRecDepth 4000 in
theorem u735 : (Jvm.Cond.selects "WeddingRegister" ({ cls := "WeddingRegister", name := "told", desc := "(II)I" } : Jvm.MethodName) ({ cls := "WeddingRegister", name := "told", desc := "(II)I" } : Jvm.MethodName)) ∈ uw := uw_of (List.mem_append_right _ (List.mem_append_right _ (List.mem_append_right _ (List.mem_append_left _ (List.mem_of_getElem? (i := 15) rfl : _ ∈ tables_1_4))))) (by rfl)
set_option maxRecDepth 4000 in
theorem u736 : (Jvm.Cond.code ({ cls := "WeddingRegister", name := "told", desc := "(II)I" } : Jvm.MethodName) prog_1_method_24_code (4 : Nat) (Option.some Jvm.ClassFile.FieldType.int)) ∈ uw := uw_of (List.mem_append_right _ (List.mem_append_right _ (List.mem_append_right _ (List.mem_append_left _ (List.mem_of_getElem? (i := 16) rfl : _ ∈ tables_1_4))))) (by rfl)
set_option maxRecDepth 4000 in
theorem u737 : (Jvm.Cond.methodLink "WeddingRegisterLaw" (113 : Nat) ({ cls := "WeddingRegister", name := "married", desc := "(I)I" } : Jvm.MethodName)) ∈ uw := uw_of (List.mem_append_right _ (List.mem_append_right _ (List.mem_append_right _ (List.mem_append_left _ (List.mem_of_getElem? (i := 17) rfl : _ ∈ tables_1_4))))) (by rfl)
set_option maxRecDepth 4000 in
theorem u738 : (Jvm.Cond.instanceMethod ({ cls := "WeddingRegister", name := "married", desc := "(I)I" } : Jvm.MethodName)) ∈ uw := uw_of (List.mem_append_right _ (List.mem_append_right _ (List.mem_append_right _ (List.mem_append_left _ (List.mem_of_getElem? (i := 18) rfl : _ ∈ tables_1_4))))) (by rfl)
set_option maxRecDepth 4000 in
theorem u739 : (Jvm.Cond.selects "WeddingRegister" ({ cls := "WeddingRegister", name := "married", desc := "(I)I" } : Jvm.MethodName) ({ cls := "WeddingRegister", name := "married", desc := "(I)I" } : Jvm.MethodName)) ∈ uw := uw_of (List.mem_append_right _ (List.mem_append_right _ (List.mem_append_right _ (List.mem_append_left _ (List.mem_of_getElem? (i := 19) rfl : _ ∈ tables_1_4))))) (by rfl)
set_option maxRecDepth 4000 in
theorem u740 : (Jvm.Cond.code ({ cls := "WeddingRegister", name := "married", desc := "(I)I" } : Jvm.MethodName) prog_1_method_25_code (4 : Nat) (Option.some Jvm.ClassFile.FieldType.int)) ∈ uw := uw_of (List.mem_append_right _ (List.mem_append_right _ (List.mem_append_right _ (List.mem_append_left _ (List.mem_of_getElem? (i := 20) rfl : _ ∈ tables_1_4))))) (by rfl)
set_option maxRecDepth 4000 in
theorem u741 : (Jvm.Cond.methodLink "WeddingRegisterLaw" (117 : Nat) ({ cls := "WeddingRegister", name := "count", desc := "(I)I" } : Jvm.MethodName)) ∈ uw := uw_of (List.mem_append_right _ (List.mem_append_right _ (List.mem_append_right _ (List.mem_append_left _ (List.mem_of_getElem? (i := 21) rfl : _ ∈ tables_1_4))))) (by rfl)
set_option maxRecDepth 4000 in
theorem u742 : (Jvm.Cond.instanceMethod ({ cls := "WeddingRegister", name := "count", desc := "(I)I" } : Jvm.MethodName)) ∈ uw := uw_of (List.mem_append_right _ (List.mem_append_right _ (List.mem_append_right _ (List.mem_append_left _ (List.mem_of_getElem? (i := 22) rfl : _ ∈ tables_1_4))))) (by rfl)
set_option maxRecDepth 4000 in
theorem u743 : (Jvm.Cond.selects "WeddingRegister" ({ cls := "WeddingRegister", name := "count", desc := "(I)I" } : Jvm.MethodName) ({ cls := "WeddingRegister", name := "count", desc := "(I)I" } : Jvm.MethodName)) ∈ uw := uw_of (List.mem_append_right _ (List.mem_append_right _ (List.mem_append_right _ (List.mem_append_left _ (List.mem_of_getElem? (i := 23) rfl : _ ∈ tables_1_4))))) (by rfl)
set_option maxRecDepth 4000 in
theorem u744 : (Jvm.Cond.code ({ cls := "WeddingRegister", name := "count", desc := "(I)I" } : Jvm.MethodName) prog_1_method_26_code (2 : Nat) (Option.some Jvm.ClassFile.FieldType.int)) ∈ uw := uw_of (List.mem_append_right _ (List.mem_append_right _ (List.mem_append_right _ (List.mem_append_left _ (List.mem_of_getElem? (i := 24) rfl : _ ∈ tables_1_4))))) (by rfl)
set_option maxRecDepth 4000 in
theorem u745 : (Jvm.Cond.methodLink "WeddingRegister" (260 : Nat) ({ cls := "WeddingRegister", name := "openBookings", desc := "()I" } : Jvm.MethodName)) ∈ uw := uw_of (List.mem_append_right _ (List.mem_append_right _ (List.mem_append_right _ (List.mem_append_left _ (List.mem_of_getElem? (i := 25) rfl : _ ∈ tables_1_4))))) (by rfl)
set_option maxRecDepth 4000 in
theorem u747 : (Jvm.Cond.instanceMethod ({ cls := "WeddingRegister", name := "openBookings", desc := "()I" } : Jvm.MethodName)) ∈ uw := uw_of (List.mem_append_right _ (List.mem_append_right _ (List.mem_append_right _ (List.mem_append_left _ (List.mem_of_getElem? (i := 27) rfl : _ ∈ tables_1_4))))) (by rfl)
set_option maxRecDepth 4000 in
theorem u748 : (Jvm.Cond.code ({ cls := "WeddingRegister", name := "openBookings", desc := "()I" } : Jvm.MethodName) prog_1_method_33_code (4 : Nat) (Option.some Jvm.ClassFile.FieldType.int)) ∈ uw := uw_of (List.mem_append_right _ (List.mem_append_right _ (List.mem_append_right _ (List.mem_append_left _ (List.mem_of_getElem? (i := 28) rfl : _ ∈ tables_1_4))))) (by rfl)
set_option maxRecDepth 4000 in
theorem u749 : (Jvm.Cond.classLink "WeddingRegisterLaw" (10 : Nat) "WeddingRegisterModel") ∈ uw := uw_of (List.mem_append_right _ (List.mem_append_right _ (List.mem_append_right _ (List.mem_append_left _ (List.mem_of_getElem? (i := 29) rfl : _ ∈ tables_1_4))))) (by rfl)
set_option maxRecDepth 4000 in
theorem u750 : (Jvm.Cond.instantiable "WeddingRegisterModel" (36 : Nat)) ∈ uw := uw_of (List.mem_append_right _ (List.mem_append_right _ (List.mem_append_right _ (List.mem_append_left _ (List.mem_of_getElem? (i := 30) rfl : _ ∈ tables_1_4))))) (by rfl)
set_option maxRecDepth 4000 in
theorem u751 : (Jvm.Cond.methodLink "WeddingRegisterLaw" (12 : Nat) ({ cls := "WeddingRegisterModel", name := "<init>", desc := "()V" } : Jvm.MethodName)) ∈ uw := uw_of (List.mem_append_right _ (List.mem_append_right _ (List.mem_append_right _ (List.mem_append_left _ (List.mem_of_getElem? (i := 31) rfl : _ ∈ tables_1_4))))) (by rfl)
set_option maxRecDepth 4000 in
theorem u752 : (Jvm.Cond.instanceMethod ({ cls := "WeddingRegisterModel", name := "<init>", desc := "()V" } : Jvm.MethodName)) ∈ uw := uw_of (List.mem_append_right _ (List.mem_append_right _ (List.mem_append_right _ (List.mem_append_left _ (List.mem_of_getElem? (i := 32) rfl : _ ∈ tables_1_4))))) (by rfl)
set_option maxRecDepth 4000 in
theorem u753 : (Jvm.Cond.code ({ cls := "WeddingRegisterModel", name := "<init>", desc := "()V" } : Jvm.MethodName) prog_13_method_1_code (1 : Nat) (Option.none : Option Jvm.ClassFile.FieldType)) ∈ uw := uw_of (List.mem_append_right _ (List.mem_append_right _ (List.mem_append_right _ (List.mem_append_left _ (List.mem_of_getElem? (i := 33) rfl : _ ∈ tables_1_4))))) (by rfl)
set_option maxRecDepth 4000 in
theorem u754 : (Jvm.Cond.methodLink "WeddingRegisterModel" (1 : Nat) ({ cls := "java/lang/Object", name := "<init>", desc := "()V" } : Jvm.MethodName)) ∈ uw := uw_of (List.mem_append_right _ (List.mem_append_right _ (List.mem_append_right _ (List.mem_append_left _ (List.mem_of_getElem? (i := 34) rfl : _ ∈ tables_1_4))))) (by rfl)
set_option maxRecDepth 4000 in
theorem u755 : (Jvm.Cond.classLink "WeddingRegisterModel" (9 : Nat) "[[I") ∈ uw := uw_of (List.mem_append_right _ (List.mem_append_right _ (List.mem_append_right _ (List.mem_append_left _ (List.mem_of_getElem? (i := 35) rfl : _ ∈ tables_1_4))))) (by rfl)
set_option maxRecDepth 4000 in
theorem u756 : (Jvm.Cond.arrayOver (Jvm.ClassFile.FieldType.array Jvm.ClassFile.FieldType.int)) ∈ lw_tbl := List.mem_append_right _ (List.mem_append_right _ (List.mem_append_right _ (List.mem_append_right _ (List.mem_append_left _ (List.mem_of_getElem? (i := 36) rfl : _ ∈ tables_1_4)))))
set_option maxRecDepth 4000 in
theorem u757 : (Jvm.Cond.fieldLink "WeddingRegisterModel" (114 : Nat) "WeddingRegisterModel" "now" "I") ∈ uw := uw_of (List.mem_append_right _ (List.mem_append_right _ (List.mem_append_right _ (List.mem_append_left _ (List.mem_of_getElem? (i := 37) rfl : _ ∈ tables_1_4))))) (by rfl)
set_option maxRecDepth 4000 in
theorem u758 : (Jvm.Cond.fieldLink "WeddingRegisterModel" (11 : Nat) "WeddingRegisterModel" "laws" "[[I") ∈ uw := uw_of (List.mem_append_right _ (List.mem_append_right _ (List.mem_append_right _ (List.mem_append_left _ (List.mem_of_getElem? (i := 38) rfl : _ ∈ tables_1_4))))) (by rfl)
set_option maxRecDepth 4000 in
theorem u759 : (Jvm.Cond.fieldLink "WeddingRegisterModel" (107 : Nat) "WeddingRegisterModel" "lawMany" "I") ∈ uw := uw_of (List.mem_append_right _ (List.mem_append_right _ (List.mem_append_right _ (List.mem_append_left _ (List.mem_of_getElem? (i := 39) rfl : _ ∈ tables_1_4))))) (by rfl)
set_option maxRecDepth 4000 in
theorem u760 : (Jvm.Cond.fieldLink "WeddingRegisterModel" (14 : Nat) "WeddingRegisterModel" "law" "[I") ∈ uw := uw_of (List.mem_append_right _ (List.mem_append_right _ (List.mem_append_right _ (List.mem_append_left _ (List.mem_of_getElem? (i := 40) rfl : _ ∈ tables_1_4))))) (by rfl)
set_option maxRecDepth 4000 in
theorem u761 : (Jvm.Cond.fieldLink "WeddingRegisterModel" (18 : Nat) "WeddingRegisterModel" "land" "[I") ∈ uw := uw_of (List.mem_append_right _ (List.mem_append_right _ (List.mem_append_right _ (List.mem_append_left _ (List.mem_of_getElem? (i := 41) rfl : _ ∈ tables_1_4))))) (by rfl)
set_option maxRecDepth 4000 in
theorem u762 : (Jvm.Cond.fieldLink "WeddingRegisterModel" (21 : Nat) "WeddingRegisterModel" "born" "[I") ∈ uw := uw_of (List.mem_append_right _ (List.mem_append_right _ (List.mem_append_right _ (List.mem_append_left _ (List.mem_of_getElem? (i := 42) rfl : _ ∈ tables_1_4))))) (by rfl)
set_option maxRecDepth 4000 in
theorem u763 : (Jvm.Cond.fieldLink "WeddingRegisterModel" (24 : Nat) "WeddingRegisterModel" "father" "[I") ∈ uw := uw_of (List.mem_append_right _ (List.mem_append_right _ (List.mem_append_right _ (List.mem_append_left _ (List.mem_of_getElem? (i := 43) rfl : _ ∈ tables_1_4))))) (by rfl)
set_option maxRecDepth 4000 in
theorem u764 : (Jvm.Cond.fieldLink "WeddingRegisterModel" (27 : Nat) "WeddingRegisterModel" "mother" "[I") ∈ uw := uw_of (List.mem_append_right _ (List.mem_append_right _ (List.mem_append_right _ (List.mem_append_left _ (List.mem_of_getElem? (i := 44) rfl : _ ∈ tables_1_4))))) (by rfl)
set_option maxRecDepth 4000 in
theorem u765 : (Jvm.Cond.fieldLink "WeddingRegisterModel" (30 : Nat) "WeddingRegisterModel" "tongues" "[I") ∈ uw := uw_of (List.mem_append_right _ (List.mem_append_right _ (List.mem_append_right _ (List.mem_append_left _ (List.mem_of_getElem? (i := 45) rfl : _ ∈ tables_1_4))))) (by rfl)
set_option maxRecDepth 4000 in
theorem u766 : (Jvm.Cond.fieldLink "WeddingRegisterModel" (33 : Nat) "WeddingRegisterModel" "names" "[I") ∈ uw := uw_of (List.mem_append_right _ (List.mem_append_right _ (List.mem_append_right _ (List.mem_append_left _ (List.mem_of_getElem? (i := 46) rfl : _ ∈ tables_1_4))))) (by rfl)
set_option maxRecDepth 4000 in
theorem u767 : (Jvm.Cond.fieldLink "WeddingRegisterModel" (36 : Nat) "WeddingRegisterModel" "spouse" "[I") ∈ uw := uw_of (List.mem_append_right _ (List.mem_append_right _ (List.mem_append_right _ (List.mem_append_left _ (List.mem_of_getElem? (i := 47) rfl : _ ∈ tables_1_4))))) (by rfl)
set_option maxRecDepth 4000 in
theorem u768 : (Jvm.Cond.fieldLink "WeddingRegisterModel" (94 : Nat) "WeddingRegisterModel" "persons" "I") ∈ uw := uw_of (List.mem_append_right _ (List.mem_append_right _ (List.mem_append_right _ (List.mem_append_left _ (List.mem_of_getElem? (i := 48) rfl : _ ∈ tables_1_4))))) (by rfl)
set_option maxRecDepth 4000 in
theorem u769 : (Jvm.Cond.fieldLink "WeddingRegisterModel" (39 : Nat) "WeddingRegisterModel" "paperOf" "[I") ∈ uw := uw_of (List.mem_append_right _ (List.mem_append_right _ (List.mem_append_right _ (List.mem_append_left _ (List.mem_of_getElem? (i := 49) rfl : _ ∈ tables_1_4))))) (by rfl)
set_option maxRecDepth 4000 in
theorem u770 : (Jvm.Cond.fieldLink "WeddingRegisterModel" (42 : Nat) "WeddingRegisterModel" "paperKind" "[I") ∈ uw := uw_of (List.mem_append_right _ (List.mem_append_right _ (List.mem_append_right _ (List.mem_append_left _ (List.mem_of_getElem? (i := 50) rfl : _ ∈ tables_1_4))))) (by rfl)
set_option maxRecDepth 4000 in
theorem u771 : (Jvm.Cond.fieldLink "WeddingRegisterModel" (45 : Nat) "WeddingRegisterModel" "paperDay" "[I") ∈ uw := uw_of (List.mem_append_right _ (List.mem_append_right _ (List.mem_append_right _ (List.mem_append_left _ (List.mem_of_getElem? (i := 51) rfl : _ ∈ tables_1_4))))) (by rfl)
set_option maxRecDepth 4000 in
theorem u772 : (Jvm.Cond.fieldLink "WeddingRegisterModel" (121 : Nat) "WeddingRegisterModel" "papers" "I") ∈ uw := uw_of (List.mem_append_right _ (List.mem_append_right _ (List.mem_append_right _ (List.mem_append_left _ (List.mem_of_getElem? (i := 52) rfl : _ ∈ tables_1_4))))) (by rfl)
set_option maxRecDepth 4000 in
theorem u773 : (Jvm.Cond.fieldLink "WeddingRegisterModel" (48 : Nat) "WeddingRegisterModel" "isFeast" "[Z") ∈ uw := uw_of (List.mem_append_right _ (List.mem_append_right _ (List.mem_append_right _ (List.mem_append_left _ (List.mem_of_getElem? (i := 53) rfl : _ ∈ tables_1_4))))) (by rfl)
set_option maxRecDepth 4000 in
theorem u774 : (Jvm.Cond.fieldLink "WeddingRegisterModel" (52 : Nat) "WeddingRegisterModel" "one" "[I") ∈ uw := uw_of (List.mem_append_right _ (List.mem_append_right _ (List.mem_append_right _ (List.mem_append_left _ (List.mem_of_getElem? (i := 54) rfl : _ ∈ tables_1_4))))) (by rfl)
set_option maxRecDepth 4000 in
theorem u775 : (Jvm.Cond.fieldLink "WeddingRegisterModel" (55 : Nat) "WeddingRegisterModel" "other" "[I") ∈ uw := uw_of (List.mem_append_right _ (List.mem_append_right _ (List.mem_append_right _ (List.mem_append_left _ (List.mem_of_getElem? (i := 55) rfl : _ ∈ tables_1_4))))) (by rfl)
set_option maxRecDepth 4000 in
theorem u776 : (Jvm.Cond.fieldLink "WeddingRegisterModel" (58 : Nat) "WeddingRegisterModel" "posted" "[I") ∈ uw := uw_of (List.mem_append_right _ (List.mem_append_right _ (List.mem_append_right _ (List.mem_append_left _ (List.mem_of_getElem? (i := 56) rfl : _ ∈ tables_1_4))))) (by rfl)
set_option maxRecDepth 4000 in
theorem u777 : (Jvm.Cond.fieldLink "WeddingRegisterModel" (61 : Nat) "WeddingRegisterModel" "state" "[I") ∈ uw := uw_of (List.mem_append_right _ (List.mem_append_right _ (List.mem_append_right _ (List.mem_append_left _ (List.mem_of_getElem? (i := 57) rfl : _ ∈ tables_1_4))))) (by rfl)
set_option maxRecDepth 4000 in
theorem u778 : (Jvm.Cond.fieldLink "WeddingRegisterModel" (64 : Nat) "WeddingRegisterModel" "bookedDay" "[I") ∈ uw := uw_of (List.mem_append_right _ (List.mem_append_right _ (List.mem_append_right _ (List.mem_append_left _ (List.mem_of_getElem? (i := 58) rfl : _ ∈ tables_1_4))))) (by rfl)
set_option maxRecDepth 4000 in
theorem u779 : (Jvm.Cond.fieldLink "WeddingRegisterModel" (67 : Nat) "WeddingRegisterModel" "slot" "[I") ∈ uw := uw_of (List.mem_append_right _ (List.mem_append_right _ (List.mem_append_right _ (List.mem_append_left _ (List.mem_of_getElem? (i := 59) rfl : _ ∈ tables_1_4))))) (by rfl)
set_option maxRecDepth 4000 in
theorem u780 : (Jvm.Cond.fieldLink "WeddingRegisterModel" (102 : Nat) "WeddingRegisterModel" "notices" "I") ∈ uw := uw_of (List.mem_append_right _ (List.mem_append_right _ (List.mem_append_right _ (List.mem_append_left _ (List.mem_of_getElem? (i := 60) rfl : _ ∈ tables_1_4))))) (by rfl)
set_option maxRecDepth 4000 in
theorem u781 : (Jvm.Cond.fieldLink "WeddingRegisterModel" (70 : Nat) "WeddingRegisterModel" "against" "[I") ∈ uw := uw_of (List.mem_append_right _ (List.mem_append_right _ (List.mem_append_right _ (List.mem_append_left _ (List.mem_of_getElem? (i := 61) rfl : _ ∈ tables_1_4))))) (by rfl)
set_option maxRecDepth 4000 in
theorem u782 : (Jvm.Cond.fieldLink "WeddingRegisterModel" (73 : Nat) "WeddingRegisterModel" "judged" "[I") ∈ uw := uw_of (List.mem_append_right _ (List.mem_append_right _ (List.mem_append_right _ (List.mem_append_left _ (List.mem_of_getElem? (i := 62) rfl : _ ∈ tables_1_4))))) (by rfl)
set_option maxRecDepth 4000 in
theorem u783 : (Jvm.Cond.fieldLink "WeddingRegisterModel" (178 : Nat) "WeddingRegisterModel" "objections" "I") ∈ uw := uw_of (List.mem_append_right _ (List.mem_append_right _ (List.mem_append_right _ (List.mem_append_left _ (List.mem_of_getElem? (i := 63) rfl : _ ∈ tables_1_4))))) (by rfl)
set_option maxRecDepth 4000 in
theorem u784 : (Jvm.Cond.fieldLink "WeddingRegisterModel" (76 : Nat) "WeddingRegisterModel" "speaks" "[I") ∈ uw := uw_of (List.mem_append_right _ (List.mem_append_right _ (List.mem_append_right _ (List.mem_append_left _ (List.mem_of_getElem? (i := 64) rfl : _ ∈ tables_1_4))))) (by rfl)
set_option maxRecDepth 4000 in
theorem u785 : (Jvm.Cond.fieldLink "WeddingRegisterModel" (184 : Nat) "WeddingRegisterModel" "registrars" "I") ∈ uw := uw_of (List.mem_append_right _ (List.mem_append_right _ (List.mem_append_right _ (List.mem_append_left _ (List.mem_of_getElem? (i := 65) rfl : _ ∈ tables_1_4))))) (by rfl)
set_option maxRecDepth 4000 in
theorem u786 : (Jvm.Cond.fieldLink "WeddingRegisterModel" (79 : Nat) "WeddingRegisterModel" "entries" "[[I") ∈ uw := uw_of (List.mem_append_right _ (List.mem_append_right _ (List.mem_append_right _ (List.mem_append_left _ (List.mem_of_getElem? (i := 66) rfl : _ ∈ tables_1_4))))) (by rfl)
set_option maxRecDepth 4000 in
theorem u787 : (Jvm.Cond.fieldLink "WeddingRegisterModel" (197 : Nat) "WeddingRegisterModel" "entryMany" "I") ∈ uw := uw_of (List.mem_append_right _ (List.mem_append_right _ (List.mem_append_right _ (List.mem_append_left _ (List.mem_of_getElem? (i := 67) rfl : _ ∈ tables_1_4))))) (by rfl)
set_option maxRecDepth 4000 in
theorem u788 : (Jvm.Cond.fieldLink "WeddingRegisterModel" (82 : Nat) "WeddingRegisterModel" "corrected" "[I") ∈ uw := uw_of (List.mem_append_right _ (List.mem_append_right _ (List.mem_append_right _ (List.mem_append_left _ (List.mem_of_getElem? (i := 68) rfl : _ ∈ tables_1_4))))) (by rfl)
set_option maxRecDepth 4000 in
theorem u789 : (Jvm.Cond.fieldLink "WeddingRegisterModel" (85 : Nat) "WeddingRegisterModel" "field" "[I") ∈ uw := uw_of (List.mem_append_right _ (List.mem_append_right _ (List.mem_append_right _ (List.mem_append_left _ (List.mem_of_getElem? (i := 69) rfl : _ ∈ tables_1_4))))) (by rfl)
set_option maxRecDepth 4000 in
theorem u790 : (Jvm.Cond.fieldLink "WeddingRegisterModel" (88 : Nat) "WeddingRegisterModel" "value" "[I") ∈ uw := uw_of (List.mem_append_right _ (List.mem_append_right _ (List.mem_append_right _ (List.mem_append_left _ (List.mem_of_getElem? (i := 70) rfl : _ ∈ tables_1_4))))) (by rfl)
set_option maxRecDepth 4000 in
theorem u791 : (Jvm.Cond.fieldLink "WeddingRegisterModel" (91 : Nat) "WeddingRegisterModel" "toldOn" "[I") ∈ uw := uw_of (List.mem_append_right _ (List.mem_append_right _ (List.mem_append_right _ (List.mem_append_left _ (List.mem_of_getElem? (i := 71) rfl : _ ∈ tables_1_4))))) (by rfl)
set_option maxRecDepth 4000 in
theorem u792 : (Jvm.Cond.fieldLink "WeddingRegisterModel" (200 : Nat) "WeddingRegisterModel" "corrections" "I") ∈ uw := uw_of (List.mem_append_right _ (List.mem_append_right _ (List.mem_append_right _ (List.mem_append_left _ (List.mem_of_getElem? (i := 72) rfl : _ ∈ tables_1_4))))) (by rfl)
set_option maxRecDepth 4000 in
theorem u793 : (Jvm.Cond.lays "WeddingRegisterModel" "WeddingRegisterModel" "now" "I") ∈ uw := uw_of (List.mem_append_right _ (List.mem_append_right _ (List.mem_append_right _ (List.mem_append_left _ (List.mem_of_getElem? (i := 73) rfl : _ ∈ tables_1_4))))) (by rfl)
set_option maxRecDepth 4000 in
theorem u795 : (Jvm.Cond.laysFinal "WeddingRegisterModel" "WeddingRegisterModel" "laws" "[[I") ∈ uw := uw_of (List.mem_append_right _ (List.mem_append_right _ (List.mem_append_right _ (List.mem_append_left _ (List.mem_of_getElem? (i := 75) rfl : _ ∈ tables_1_4))))) (by rfl)
set_option maxRecDepth 4000 in
theorem u797 : (Jvm.Cond.lays "WeddingRegisterModel" "WeddingRegisterModel" "lawMany" "I") ∈ uw := uw_of (List.mem_append_right _ (List.mem_append_right _ (List.mem_append_right _ (List.mem_append_left _ (List.mem_of_getElem? (i := 77) rfl : _ ∈ tables_1_4))))) (by rfl)
set_option maxRecDepth 4000 in
theorem u799 : (Jvm.Cond.laysFinal "WeddingRegisterModel" "WeddingRegisterModel" "law" "[I") ∈ uw := uw_of (List.mem_append_right _ (List.mem_append_right _ (List.mem_append_right _ (List.mem_append_left _ (List.mem_of_getElem? (i := 79) rfl : _ ∈ tables_1_4))))) (by rfl)
set_option maxRecDepth 4000 in
theorem u801 : (Jvm.Cond.laysFinal "WeddingRegisterModel" "WeddingRegisterModel" "land" "[I") ∈ uw := uw_of (List.mem_append_right _ (List.mem_append_right _ (List.mem_append_right _ (List.mem_append_left _ (List.mem_of_getElem? (i := 81) rfl : _ ∈ tables_1_4))))) (by rfl)
set_option maxRecDepth 4000 in
theorem u803 : (Jvm.Cond.laysFinal "WeddingRegisterModel" "WeddingRegisterModel" "born" "[I") ∈ uw := uw_of (List.mem_append_right _ (List.mem_append_right _ (List.mem_append_right _ (List.mem_append_left _ (List.mem_of_getElem? (i := 83) rfl : _ ∈ tables_1_4))))) (by rfl)
set_option maxRecDepth 4000 in
theorem u805 : (Jvm.Cond.laysFinal "WeddingRegisterModel" "WeddingRegisterModel" "father" "[I") ∈ uw := uw_of (List.mem_append_right _ (List.mem_append_right _ (List.mem_append_right _ (List.mem_append_left _ (List.mem_of_getElem? (i := 85) rfl : _ ∈ tables_1_4))))) (by rfl)
set_option maxRecDepth 4000 in
theorem u807 : (Jvm.Cond.laysFinal "WeddingRegisterModel" "WeddingRegisterModel" "mother" "[I") ∈ uw := uw_of (List.mem_append_right _ (List.mem_append_right _ (List.mem_append_right _ (List.mem_append_left _ (List.mem_of_getElem? (i := 87) rfl : _ ∈ tables_1_4))))) (by rfl)
set_option maxRecDepth 4000 in
theorem u809 : (Jvm.Cond.laysFinal "WeddingRegisterModel" "WeddingRegisterModel" "tongues" "[I") ∈ uw := uw_of (List.mem_append_right _ (List.mem_append_right _ (List.mem_append_right _ (List.mem_append_left _ (List.mem_of_getElem? (i := 89) rfl : _ ∈ tables_1_4))))) (by rfl)
set_option maxRecDepth 4000 in
theorem u811 : (Jvm.Cond.laysFinal "WeddingRegisterModel" "WeddingRegisterModel" "names" "[I") ∈ uw := uw_of (List.mem_append_right _ (List.mem_append_right _ (List.mem_append_right _ (List.mem_append_left _ (List.mem_of_getElem? (i := 91) rfl : _ ∈ tables_1_4))))) (by rfl)
set_option maxRecDepth 4000 in
theorem u813 : (Jvm.Cond.laysFinal "WeddingRegisterModel" "WeddingRegisterModel" "spouse" "[I") ∈ uw := uw_of (List.mem_append_right _ (List.mem_append_right _ (List.mem_append_right _ (List.mem_append_left _ (List.mem_of_getElem? (i := 93) rfl : _ ∈ tables_1_4))))) (by rfl)
set_option maxRecDepth 4000 in
theorem u815 : (Jvm.Cond.lays "WeddingRegisterModel" "WeddingRegisterModel" "persons" "I") ∈ uw := uw_of (List.mem_append_right _ (List.mem_append_right _ (List.mem_append_right _ (List.mem_append_left _ (List.mem_of_getElem? (i := 95) rfl : _ ∈ tables_1_4))))) (by rfl)
set_option maxRecDepth 4000 in
theorem u817 : (Jvm.Cond.laysFinal "WeddingRegisterModel" "WeddingRegisterModel" "paperOf" "[I") ∈ uw := uw_of (List.mem_append_right _ (List.mem_append_right _ (List.mem_append_right _ (List.mem_append_left _ (List.mem_of_getElem? (i := 97) rfl : _ ∈ tables_1_4))))) (by rfl)
set_option maxRecDepth 4000 in
theorem u819 : (Jvm.Cond.laysFinal "WeddingRegisterModel" "WeddingRegisterModel" "paperKind" "[I") ∈ uw := uw_of (List.mem_append_right _ (List.mem_append_right _ (List.mem_append_right _ (List.mem_append_left _ (List.mem_of_getElem? (i := 99) rfl : _ ∈ tables_1_4))))) (by rfl)
set_option maxRecDepth 4000 in
theorem u821 : (Jvm.Cond.laysFinal "WeddingRegisterModel" "WeddingRegisterModel" "paperDay" "[I") ∈ uw := uw_of (List.mem_append_right _ (List.mem_append_right _ (List.mem_append_right _ (List.mem_append_left _ (List.mem_of_getElem? (i := 101) rfl : _ ∈ tables_1_4))))) (by rfl)
set_option maxRecDepth 4000 in
theorem u823 : (Jvm.Cond.lays "WeddingRegisterModel" "WeddingRegisterModel" "papers" "I") ∈ uw := uw_of (List.mem_append_right _ (List.mem_append_right _ (List.mem_append_right _ (List.mem_append_left _ (List.mem_of_getElem? (i := 103) rfl : _ ∈ tables_1_4))))) (by rfl)
set_option maxRecDepth 4000 in
theorem u825 : (Jvm.Cond.laysFinal "WeddingRegisterModel" "WeddingRegisterModel" "isFeast" "[Z") ∈ uw := uw_of (List.mem_append_right _ (List.mem_append_right _ (List.mem_append_right _ (List.mem_append_left _ (List.mem_of_getElem? (i := 105) rfl : _ ∈ tables_1_4))))) (by rfl)
set_option maxRecDepth 4000 in
theorem u827 : (Jvm.Cond.laysFinal "WeddingRegisterModel" "WeddingRegisterModel" "one" "[I") ∈ uw := uw_of (List.mem_append_right _ (List.mem_append_right _ (List.mem_append_right _ (List.mem_append_left _ (List.mem_of_getElem? (i := 107) rfl : _ ∈ tables_1_4))))) (by rfl)
set_option maxRecDepth 4000 in
theorem u829 : (Jvm.Cond.laysFinal "WeddingRegisterModel" "WeddingRegisterModel" "other" "[I") ∈ uw := uw_of (List.mem_append_right _ (List.mem_append_right _ (List.mem_append_right _ (List.mem_append_left _ (List.mem_of_getElem? (i := 109) rfl : _ ∈ tables_1_4))))) (by rfl)
set_option maxRecDepth 4000 in
theorem u831 : (Jvm.Cond.laysFinal "WeddingRegisterModel" "WeddingRegisterModel" "posted" "[I") ∈ uw := uw_of (List.mem_append_right _ (List.mem_append_right _ (List.mem_append_right _ (List.mem_append_left _ (List.mem_of_getElem? (i := 111) rfl : _ ∈ tables_1_4))))) (by rfl)
set_option maxRecDepth 4000 in
theorem u833 : (Jvm.Cond.laysFinal "WeddingRegisterModel" "WeddingRegisterModel" "state" "[I") ∈ uw := uw_of (List.mem_append_right _ (List.mem_append_right _ (List.mem_append_right _ (List.mem_append_left _ (List.mem_of_getElem? (i := 113) rfl : _ ∈ tables_1_4))))) (by rfl)
set_option maxRecDepth 4000 in
theorem u835 : (Jvm.Cond.laysFinal "WeddingRegisterModel" "WeddingRegisterModel" "bookedDay" "[I") ∈ uw := uw_of (List.mem_append_right _ (List.mem_append_right _ (List.mem_append_right _ (List.mem_append_left _ (List.mem_of_getElem? (i := 115) rfl : _ ∈ tables_1_4))))) (by rfl)
set_option maxRecDepth 4000 in
theorem u837 : (Jvm.Cond.laysFinal "WeddingRegisterModel" "WeddingRegisterModel" "slot" "[I") ∈ uw := uw_of (List.mem_append_right _ (List.mem_append_right _ (List.mem_append_right _ (List.mem_append_left _ (List.mem_of_getElem? (i := 117) rfl : _ ∈ tables_1_4))))) (by rfl)
set_option maxRecDepth 4000 in
theorem u839 : (Jvm.Cond.lays "WeddingRegisterModel" "WeddingRegisterModel" "notices" "I") ∈ uw := uw_of (List.mem_append_right _ (List.mem_append_right _ (List.mem_append_right _ (List.mem_append_left _ (List.mem_of_getElem? (i := 119) rfl : _ ∈ tables_1_4))))) (by rfl)
set_option maxRecDepth 4000 in
theorem u841 : (Jvm.Cond.laysFinal "WeddingRegisterModel" "WeddingRegisterModel" "against" "[I") ∈ uw := uw_of (List.mem_append_right _ (List.mem_append_right _ (List.mem_append_right _ (List.mem_append_left _ (List.mem_of_getElem? (i := 121) rfl : _ ∈ tables_1_4))))) (by rfl)
set_option maxRecDepth 4000 in
theorem u843 : (Jvm.Cond.laysFinal "WeddingRegisterModel" "WeddingRegisterModel" "judged" "[I") ∈ uw := uw_of (List.mem_append_right _ (List.mem_append_right _ (List.mem_append_right _ (List.mem_append_left _ (List.mem_of_getElem? (i := 123) rfl : _ ∈ tables_1_4))))) (by rfl)
set_option maxRecDepth 4000 in
theorem u845 : (Jvm.Cond.lays "WeddingRegisterModel" "WeddingRegisterModel" "objections" "I") ∈ uw := uw_of (List.mem_append_right _ (List.mem_append_right _ (List.mem_append_right _ (List.mem_append_left _ (List.mem_of_getElem? (i := 125) rfl : _ ∈ tables_1_4))))) (by rfl)
set_option maxRecDepth 4000 in
theorem u847 : (Jvm.Cond.laysFinal "WeddingRegisterModel" "WeddingRegisterModel" "speaks" "[I") ∈ uw := uw_of (List.mem_append_right _ (List.mem_append_right _ (List.mem_append_right _ (List.mem_append_left _ (List.mem_of_getElem? (i := 127) rfl : _ ∈ tables_1_4))))) (by rfl)
set_option maxRecDepth 4000 in
theorem u849 : (Jvm.Cond.lays "WeddingRegisterModel" "WeddingRegisterModel" "registrars" "I") ∈ uw := uw_of (List.mem_append_right _ (List.mem_append_right _ (List.mem_append_right _ (List.mem_append_left _ (List.mem_of_getElem? (i := 129) rfl : _ ∈ tables_1_4))))) (by rfl)
set_option maxRecDepth 4000 in
theorem u851 : (Jvm.Cond.laysFinal "WeddingRegisterModel" "WeddingRegisterModel" "entries" "[[I") ∈ uw := uw_of (List.mem_append_right _ (List.mem_append_right _ (List.mem_append_right _ (List.mem_append_left _ (List.mem_of_getElem? (i := 131) rfl : _ ∈ tables_1_4))))) (by rfl)
set_option maxRecDepth 4000 in
theorem u853 : (Jvm.Cond.lays "WeddingRegisterModel" "WeddingRegisterModel" "entryMany" "I") ∈ uw := uw_of (List.mem_append_right _ (List.mem_append_right _ (List.mem_append_right _ (List.mem_append_left _ (List.mem_of_getElem? (i := 133) rfl : _ ∈ tables_1_4))))) (by rfl)
set_option maxRecDepth 4000 in
theorem u855 : (Jvm.Cond.laysFinal "WeddingRegisterModel" "WeddingRegisterModel" "corrected" "[I") ∈ uw := uw_of (List.mem_append_right _ (List.mem_append_right _ (List.mem_append_right _ (List.mem_append_left _ (List.mem_of_getElem? (i := 135) rfl : _ ∈ tables_1_4))))) (by rfl)
set_option maxRecDepth 4000 in
theorem u857 : (Jvm.Cond.laysFinal "WeddingRegisterModel" "WeddingRegisterModel" "field" "[I") ∈ uw := uw_of (List.mem_append_right _ (List.mem_append_right _ (List.mem_append_right _ (List.mem_append_left _ (List.mem_of_getElem? (i := 137) rfl : _ ∈ tables_1_4))))) (by rfl)
set_option maxRecDepth 4000 in
theorem u859 : (Jvm.Cond.laysFinal "WeddingRegisterModel" "WeddingRegisterModel" "value" "[I") ∈ uw := uw_of (List.mem_append_right _ (List.mem_append_right _ (List.mem_append_right _ (List.mem_append_left _ (List.mem_of_getElem? (i := 139) rfl : _ ∈ tables_1_4))))) (by rfl)
set_option maxRecDepth 4000 in
theorem u861 : (Jvm.Cond.laysFinal "WeddingRegisterModel" "WeddingRegisterModel" "toldOn" "[I") ∈ uw := uw_of (List.mem_append_right _ (List.mem_append_right _ (List.mem_append_right _ (List.mem_append_left _ (List.mem_of_getElem? (i := 141) rfl : _ ∈ tables_1_4))))) (by rfl)
set_option maxRecDepth 4000 in
theorem u863 : (Jvm.Cond.lays "WeddingRegisterModel" "WeddingRegisterModel" "corrections" "I") ∈ uw := uw_of (List.mem_append_right _ (List.mem_append_right _ (List.mem_append_right _ (List.mem_append_left _ (List.mem_of_getElem? (i := 143) rfl : _ ∈ tables_1_4))))) (by rfl)
set_option maxRecDepth 4000 in
theorem u866 : (Jvm.Cond.arrayClass Jvm.ClassFile.FieldType.boolean) ∈ uw := uw_of (List.mem_append_right _ (List.mem_append_right _ (List.mem_append_right _ (List.mem_append_left _ (List.mem_of_getElem? (i := 146) rfl : _ ∈ tables_1_4))))) (by rfl)
set_option maxRecDepth 4000 in
theorem u867 : (Jvm.Cond.methodLink "WeddingRegisterLaw" (17 : Nat) ({ cls := "WeddingRegisterModel", name := "law", desc := "(IIII)Z" } : Jvm.MethodName)) ∈ uw := uw_of (List.mem_append_right _ (List.mem_append_right _ (List.mem_append_right _ (List.mem_append_left _ (List.mem_of_getElem? (i := 147) rfl : _ ∈ tables_1_4))))) (by rfl)
set_option maxRecDepth 4000 in
theorem u868 : (Jvm.Cond.instanceMethod ({ cls := "WeddingRegisterModel", name := "law", desc := "(IIII)Z" } : Jvm.MethodName)) ∈ uw := uw_of (List.mem_append_right _ (List.mem_append_right _ (List.mem_append_right _ (List.mem_append_left _ (List.mem_of_getElem? (i := 148) rfl : _ ∈ tables_1_4))))) (by rfl)
set_option maxRecDepth 4000 in
theorem u869 : (Jvm.Cond.selects "WeddingRegisterModel" ({ cls := "WeddingRegisterModel", name := "law", desc := "(IIII)Z" } : Jvm.MethodName) ({ cls := "WeddingRegisterModel", name := "law", desc := "(IIII)Z" } : Jvm.MethodName)) ∈ uw := uw_of (List.mem_append_right _ (List.mem_append_right _ (List.mem_append_right _ (List.mem_append_left _ (List.mem_of_getElem? (i := 149) rfl : _ ∈ tables_1_4))))) (by rfl)
set_option maxRecDepth 4000 in
theorem u870 : (Jvm.Cond.code ({ cls := "WeddingRegisterModel", name := "law", desc := "(IIII)Z" } : Jvm.MethodName) prog_13_method_5_code (11 : Nat) (Option.some Jvm.ClassFile.FieldType.boolean)) ∈ uw := uw_of (List.mem_append_right _ (List.mem_append_right _ (List.mem_append_right _ (List.mem_append_left _ (List.mem_of_getElem? (i := 150) rfl : _ ∈ tables_1_4))))) (by rfl)
set_option maxRecDepth 4000 in
theorem u871 : (Jvm.Cond.constant "WeddingRegisterModel" (105 : Nat) (1000000 : Int32)) ∈ uw := uw_of (List.mem_append_right _ (List.mem_append_right _ (List.mem_append_right _ (List.mem_append_left _ (List.mem_of_getElem? (i := 151) rfl : _ ∈ tables_1_4))))) (by rfl)
set_option maxRecDepth 4000 in
theorem u872 : (Jvm.Cond.constant "WeddingRegisterModel" (106 : Nat) (100000 : Int32)) ∈ uw := uw_of (List.mem_append_right _ (List.mem_append_right _ (List.mem_append_right _ (List.mem_append_left _ (List.mem_of_getElem? (i := 152) rfl : _ ∈ tables_1_4))))) (by rfl)
set_option maxRecDepth 4000 in
theorem u873 : (Jvm.Cond.methodLink "WeddingRegisterModel" (98 : Nat) ({ cls := "WeddingRegisterModel", name := "in", desc := "(III)Z" } : Jvm.MethodName)) ∈ uw := uw_of (List.mem_append_right _ (List.mem_append_right _ (List.mem_append_right _ (List.mem_append_left _ (List.mem_of_getElem? (i := 153) rfl : _ ∈ tables_1_4))))) (by rfl)
set_option maxRecDepth 4000 in
theorem u874 : (Jvm.Cond.static ({ cls := "WeddingRegisterModel", name := "in", desc := "(III)Z" } : Jvm.MethodName)) ∈ uw := uw_of (List.mem_append_right _ (List.mem_append_right _ (List.mem_append_right _ (List.mem_append_left _ (List.mem_of_getElem? (i := 154) rfl : _ ∈ tables_1_4))))) (by rfl)
set_option maxRecDepth 4000 in
theorem u875 : (Jvm.Cond.code ({ cls := "WeddingRegisterModel", name := "in", desc := "(III)Z" } : Jvm.MethodName) prog_13_method_2_code (3 : Nat) (Option.some Jvm.ClassFile.FieldType.boolean)) ∈ uw := uw_of (List.mem_append_right _ (List.mem_append_right _ (List.mem_append_right _ (List.mem_append_left _ (List.mem_of_getElem? (i := 155) rfl : _ ∈ tables_1_4))))) (by rfl)
set_option maxRecDepth 4000 in
theorem u876 : (Jvm.Cond.methodLink "WeddingRegisterLaw" (22 : Nat) ({ cls := "WeddingRegisterModel", name := "person", desc := "(IIII)I" } : Jvm.MethodName)) ∈ uw := uw_of (List.mem_append_right _ (List.mem_append_right _ (List.mem_append_right _ (List.mem_append_left _ (List.mem_of_getElem? (i := 156) rfl : _ ∈ tables_1_4))))) (by rfl)
set_option maxRecDepth 4000 in
theorem u877 : (Jvm.Cond.instanceMethod ({ cls := "WeddingRegisterModel", name := "person", desc := "(IIII)I" } : Jvm.MethodName)) ∈ uw := uw_of (List.mem_append_right _ (List.mem_append_right _ (List.mem_append_right _ (List.mem_append_left _ (List.mem_of_getElem? (i := 157) rfl : _ ∈ tables_1_4))))) (by rfl)
set_option maxRecDepth 4000 in
theorem u878 : (Jvm.Cond.selects "WeddingRegisterModel" ({ cls := "WeddingRegisterModel", name := "person", desc := "(IIII)I" } : Jvm.MethodName) ({ cls := "WeddingRegisterModel", name := "person", desc := "(IIII)I" } : Jvm.MethodName)) ∈ uw := uw_of (List.mem_append_right _ (List.mem_append_right _ (List.mem_append_right _ (List.mem_append_left _ (List.mem_of_getElem? (i := 158) rfl : _ ∈ tables_1_4))))) (by rfl)
set_option maxRecDepth 4000 in
theorem u879 : (Jvm.Cond.code ({ cls := "WeddingRegisterModel", name := "person", desc := "(IIII)I" } : Jvm.MethodName) prog_13_method_8_code (8 : Nat) (Option.some Jvm.ClassFile.FieldType.int)) ∈ uw := uw_of (List.mem_append_right _ (List.mem_append_right _ (List.mem_append_right _ (List.mem_append_left _ (List.mem_of_getElem? (i := 159) rfl : _ ∈ tables_1_4))))) (by rfl)
set_option maxRecDepth 4000 in
theorem u880 : (Jvm.Cond.methodLink "WeddingRegisterModel" (117 : Nat) ({ cls := "WeddingRegisterModel", name := "isPerson", desc := "(I)Z" } : Jvm.MethodName)) ∈ uw := uw_of (List.mem_append_right _ (List.mem_append_right _ (List.mem_append_right _ (List.mem_append_left _ (List.mem_of_getElem? (i := 160) rfl : _ ∈ tables_1_4))))) (by rfl)
set_option maxRecDepth 4000 in
theorem u882 : (Jvm.Cond.instanceMethod ({ cls := "WeddingRegisterModel", name := "isPerson", desc := "(I)Z" } : Jvm.MethodName)) ∈ uw := uw_of (List.mem_append_right _ (List.mem_append_right _ (List.mem_append_right _ (List.mem_append_left _ (List.mem_of_getElem? (i := 162) rfl : _ ∈ tables_1_4))))) (by rfl)
set_option maxRecDepth 4000 in
theorem u883 : (Jvm.Cond.code ({ cls := "WeddingRegisterModel", name := "isPerson", desc := "(I)Z" } : Jvm.MethodName) prog_13_method_3_code (2 : Nat) (Option.some Jvm.ClassFile.FieldType.boolean)) ∈ uw := uw_of (List.mem_append_right _ (List.mem_append_right _ (List.mem_append_right _ (List.mem_append_left _ (List.mem_of_getElem? (i := 163) rfl : _ ∈ tables_1_4))))) (by rfl)
set_option maxRecDepth 4000 in
theorem u884 : (Jvm.Cond.methodLink "WeddingRegisterLaw" (27 : Nat) ({ cls := "WeddingRegisterModel", name := "paper", desc := "(III)Z" } : Jvm.MethodName)) ∈ uw := uw_of (List.mem_append_right _ (List.mem_append_right _ (List.mem_append_right _ (List.mem_append_left _ (List.mem_of_getElem? (i := 164) rfl : _ ∈ tables_1_4))))) (by rfl)
set_option maxRecDepth 4000 in
theorem u885 : (Jvm.Cond.instanceMethod ({ cls := "WeddingRegisterModel", name := "paper", desc := "(III)Z" } : Jvm.MethodName)) ∈ uw := uw_of (List.mem_append_right _ (List.mem_append_right _ (List.mem_append_right _ (List.mem_append_left _ (List.mem_of_getElem? (i := 165) rfl : _ ∈ tables_1_4))))) (by rfl)
set_option maxRecDepth 4000 in
theorem u886 : (Jvm.Cond.selects "WeddingRegisterModel" ({ cls := "WeddingRegisterModel", name := "paper", desc := "(III)Z" } : Jvm.MethodName) ({ cls := "WeddingRegisterModel", name := "paper", desc := "(III)Z" } : Jvm.MethodName)) ∈ uw := uw_of (List.mem_append_right _ (List.mem_append_right _ (List.mem_append_right _ (List.mem_append_left _ (List.mem_of_getElem? (i := 166) rfl : _ ∈ tables_1_4))))) (by rfl)
set_option maxRecDepth 4000 in
theorem u887 : (Jvm.Cond.code ({ cls := "WeddingRegisterModel", name := "paper", desc := "(III)Z" } : Jvm.MethodName) prog_13_method_9_code (4 : Nat) (Option.some Jvm.ClassFile.FieldType.boolean)) ∈ uw := uw_of (List.mem_append_right _ (List.mem_append_right _ (List.mem_append_right _ (List.mem_append_left _ (List.mem_of_getElem? (i := 167) rfl : _ ∈ tables_1_4))))) (by rfl)
set_option maxRecDepth 4000 in
theorem u888 : (Jvm.Cond.methodLink "WeddingRegisterLaw" (32 : Nat) ({ cls := "WeddingRegisterModel", name := "feast", desc := "(I)Z" } : Jvm.MethodName)) ∈ uw := uw_of (List.mem_append_right _ (List.mem_append_right _ (List.mem_append_right _ (List.mem_append_left _ (List.mem_of_getElem? (i := 168) rfl : _ ∈ tables_1_4))))) (by rfl)
set_option maxRecDepth 4000 in
theorem u889 : (Jvm.Cond.instanceMethod ({ cls := "WeddingRegisterModel", name := "feast", desc := "(I)Z" } : Jvm.MethodName)) ∈ uw := uw_of (List.mem_append_right _ (List.mem_append_right _ (List.mem_append_right _ (List.mem_append_left _ (List.mem_of_getElem? (i := 169) rfl : _ ∈ tables_1_4))))) (by rfl)
set_option maxRecDepth 4000 in
theorem u890 : (Jvm.Cond.selects "WeddingRegisterModel" ({ cls := "WeddingRegisterModel", name := "feast", desc := "(I)Z" } : Jvm.MethodName) ({ cls := "WeddingRegisterModel", name := "feast", desc := "(I)Z" } : Jvm.MethodName)) ∈ uw := uw_of (List.mem_append_right _ (List.mem_append_right _ (List.mem_append_right _ (List.mem_append_left _ (List.mem_of_getElem? (i := 170) rfl : _ ∈ tables_1_4))))) (by rfl)
set_option maxRecDepth 4000 in
theorem u891 : (Jvm.Cond.code ({ cls := "WeddingRegisterModel", name := "feast", desc := "(I)Z" } : Jvm.MethodName) prog_13_method_12_code (2 : Nat) (Option.some Jvm.ClassFile.FieldType.boolean)) ∈ uw := uw_of (List.mem_append_right _ (List.mem_append_right _ (List.mem_append_right _ (List.mem_append_left _ (List.mem_of_getElem? (i := 171) rfl : _ ∈ tables_1_4))))) (by rfl)
set_option maxRecDepth 4000 in
theorem u892 : (Jvm.Cond.methodLink "WeddingRegisterModel" (128 : Nat) ({ cls := "WeddingRegisterModel", name := "isFree", desc := "(I)Z" } : Jvm.MethodName)) ∈ uw := uw_of (List.mem_append_right _ (List.mem_append_right _ (List.mem_append_right _ (List.mem_append_left _ (List.mem_of_getElem? (i := 172) rfl : _ ∈ tables_1_4))))) (by rfl)
set_option maxRecDepth 4000 in
theorem u894 : (Jvm.Cond.instanceMethod ({ cls := "WeddingRegisterModel", name := "isFree", desc := "(I)Z" } : Jvm.MethodName)) ∈ uw := uw_of (List.mem_append_right _ (List.mem_append_right _ (List.mem_append_right _ (List.mem_append_left _ (List.mem_of_getElem? (i := 174) rfl : _ ∈ tables_1_4))))) (by rfl)
set_option maxRecDepth 4000 in
theorem u895 : (Jvm.Cond.code ({ cls := "WeddingRegisterModel", name := "isFree", desc := "(I)Z" } : Jvm.MethodName) prog_13_method_11_code (2 : Nat) (Option.some Jvm.ClassFile.FieldType.boolean)) ∈ uw := uw_of (List.mem_append_right _ (List.mem_append_right _ (List.mem_append_right _ (List.mem_append_left _ (List.mem_of_getElem? (i := 175) rfl : _ ∈ tables_1_4))))) (by rfl)
set_option maxRecDepth 4000 in
theorem u896 : (Jvm.Cond.methodLink "WeddingRegisterLaw" (37 : Nat) ({ cls := "WeddingRegisterModel", name := "go", desc := "(I)I" } : Jvm.MethodName)) ∈ uw := uw_of (List.mem_append_right _ (List.mem_append_right _ (List.mem_append_right _ (List.mem_append_left _ (List.mem_of_getElem? (i := 176) rfl : _ ∈ tables_1_4))))) (by rfl)
set_option maxRecDepth 4000 in
theorem u897 : (Jvm.Cond.instanceMethod ({ cls := "WeddingRegisterModel", name := "go", desc := "(I)I" } : Jvm.MethodName)) ∈ uw := uw_of (List.mem_append_right _ (List.mem_append_right _ (List.mem_append_right _ (List.mem_append_left _ (List.mem_of_getElem? (i := 177) rfl : _ ∈ tables_1_4))))) (by rfl)
set_option maxRecDepth 4000 in
theorem u898 : (Jvm.Cond.selects "WeddingRegisterModel" ({ cls := "WeddingRegisterModel", name := "go", desc := "(I)I" } : Jvm.MethodName) ({ cls := "WeddingRegisterModel", name := "go", desc := "(I)I" } : Jvm.MethodName)) ∈ uw := uw_of (List.mem_append_right _ (List.mem_append_right _ (List.mem_append_right _ (List.mem_append_left _ (List.mem_of_getElem? (i := 178) rfl : _ ∈ tables_1_4))))) (by rfl)
set_option maxRecDepth 4000 in
theorem u899 : (Jvm.Cond.code ({ cls := "WeddingRegisterModel", name := "go", desc := "(I)I" } : Jvm.MethodName) prog_13_method_13_code (2 : Nat) (Option.some Jvm.ClassFile.FieldType.int)) ∈ uw := uw_of (List.mem_append_right _ (List.mem_append_right _ (List.mem_append_right _ (List.mem_append_left _ (List.mem_of_getElem? (i := 179) rfl : _ ∈ tables_1_4))))) (by rfl)
set_option maxRecDepth 4000 in
theorem u900 : (Jvm.Cond.methodLink "WeddingRegisterModel" (131 : Nat) ({ cls := "java/lang/Math", name := "min", desc := "(II)I" } : Jvm.MethodName)) ∈ uw := uw_of (List.mem_append_right _ (List.mem_append_right _ (List.mem_append_right _ (List.mem_append_left _ (List.mem_of_getElem? (i := 180) rfl : _ ∈ tables_1_4))))) (by rfl)
set_option maxRecDepth 4000 in
theorem u901 : (Jvm.Cond.methodLink "WeddingRegisterLaw" (42 : Nat) ({ cls := "WeddingRegisterModel", name := "kin", desc := "(II)I" } : Jvm.MethodName)) ∈ uw := uw_of (List.mem_append_right _ (List.mem_append_right _ (List.mem_append_right _ (List.mem_append_left _ (List.mem_of_getElem? (i := 181) rfl : _ ∈ tables_1_4))))) (by rfl)
set_option maxRecDepth 4000 in
theorem u902 : (Jvm.Cond.instanceMethod ({ cls := "WeddingRegisterModel", name := "kin", desc := "(II)I" } : Jvm.MethodName)) ∈ uw := uw_of (List.mem_append_right _ (List.mem_append_right _ (List.mem_append_right _ (List.mem_append_left _ (List.mem_of_getElem? (i := 182) rfl : _ ∈ tables_1_4))))) (by rfl)
set_option maxRecDepth 4000 in
theorem u903 : (Jvm.Cond.selects "WeddingRegisterModel" ({ cls := "WeddingRegisterModel", name := "kin", desc := "(II)I" } : Jvm.MethodName) ({ cls := "WeddingRegisterModel", name := "kin", desc := "(II)I" } : Jvm.MethodName)) ∈ uw := uw_of (List.mem_append_right _ (List.mem_append_right _ (List.mem_append_right _ (List.mem_append_left _ (List.mem_of_getElem? (i := 183) rfl : _ ∈ tables_1_4))))) (by rfl)
set_option maxRecDepth 4000 in
theorem u904 : (Jvm.Cond.code ({ cls := "WeddingRegisterModel", name := "kin", desc := "(II)I" } : Jvm.MethodName) prog_13_method_18_code (3 : Nat) (Option.some Jvm.ClassFile.FieldType.int)) ∈ uw := uw_of (List.mem_append_right _ (List.mem_append_right _ (List.mem_append_right _ (List.mem_append_left _ (List.mem_of_getElem? (i := 184) rfl : _ ∈ tables_1_4))))) (by rfl)
set_option maxRecDepth 4000 in
theorem u905 : (Jvm.Cond.methodLink "WeddingRegisterModel" (147 : Nat) ({ cls := "WeddingRegisterModel", name := "kinOf", desc := "(II)I" } : Jvm.MethodName)) ∈ uw := uw_of (List.mem_append_right _ (List.mem_append_right _ (List.mem_append_right _ (List.mem_append_left _ (List.mem_of_getElem? (i := 185) rfl : _ ∈ tables_1_4))))) (by rfl)
set_option maxRecDepth 4000 in
theorem u907 : (Jvm.Cond.instanceMethod ({ cls := "WeddingRegisterModel", name := "kinOf", desc := "(II)I" } : Jvm.MethodName)) ∈ uw := uw_of (List.mem_append_right _ (List.mem_append_right _ (List.mem_append_right _ (List.mem_append_left _ (List.mem_of_getElem? (i := 187) rfl : _ ∈ tables_1_4))))) (by rfl)
set_option maxRecDepth 4000 in
theorem u908 : (Jvm.Cond.code ({ cls := "WeddingRegisterModel", name := "kinOf", desc := "(II)I" } : Jvm.MethodName) prog_13_method_17_code (8 : Nat) (Option.some Jvm.ClassFile.FieldType.int)) ∈ uw := uw_of (List.mem_append_right _ (List.mem_append_right _ (List.mem_append_right _ (List.mem_append_left _ (List.mem_of_getElem? (i := 188) rfl : _ ∈ tables_1_4))))) (by rfl)
set_option maxRecDepth 4000 in
theorem u909 : (Jvm.Cond.methodLink "WeddingRegisterModel" (137 : Nat) ({ cls := "WeddingRegisterModel", name := "isParent", desc := "(II)Z" } : Jvm.MethodName)) ∈ uw := uw_of (List.mem_append_right _ (List.mem_append_right _ (List.mem_append_right _ (List.mem_append_left _ (List.mem_of_getElem? (i := 189) rfl : _ ∈ tables_1_4))))) (by rfl)
set_option maxRecDepth 4000 in
theorem u911 : (Jvm.Cond.instanceMethod ({ cls := "WeddingRegisterModel", name := "isParent", desc := "(II)Z" } : Jvm.MethodName)) ∈ uw := uw_of (List.mem_append_right _ (List.mem_append_right _ (List.mem_append_right _ (List.mem_append_left _ (List.mem_of_getElem? (i := 191) rfl : _ ∈ tables_1_4))))) (by rfl)
set_option maxRecDepth 4000 in
theorem u912 : (Jvm.Cond.code ({ cls := "WeddingRegisterModel", name := "isParent", desc := "(II)Z" } : Jvm.MethodName) prog_13_method_14_code (3 : Nat) (Option.some Jvm.ClassFile.FieldType.boolean)) ∈ uw := uw_of (List.mem_append_right _ (List.mem_append_right _ (List.mem_append_right _ (List.mem_append_left _ (List.mem_of_getElem? (i := 192) rfl : _ ∈ tables_1_4))))) (by rfl)
set_option maxRecDepth 4000 in
theorem u913 : (Jvm.Cond.methodLink "WeddingRegisterModel" (141 : Nat) ({ cls := "WeddingRegisterModel", name := "share", desc := "(II)Z" } : Jvm.MethodName)) ∈ uw := uw_of (List.mem_append_right _ (List.mem_append_right _ (List.mem_append_right _ (List.mem_append_left _ (List.mem_of_getElem? (i := 193) rfl : _ ∈ tables_1_4))))) (by rfl)
set_option maxRecDepth 4000 in
theorem u915 : (Jvm.Cond.instanceMethod ({ cls := "WeddingRegisterModel", name := "share", desc := "(II)Z" } : Jvm.MethodName)) ∈ uw := uw_of (List.mem_append_right _ (List.mem_append_right _ (List.mem_append_right _ (List.mem_append_left _ (List.mem_of_getElem? (i := 195) rfl : _ ∈ tables_1_4))))) (by rfl)
set_option maxRecDepth 4000 in
theorem u916 : (Jvm.Cond.code ({ cls := "WeddingRegisterModel", name := "share", desc := "(II)Z" } : Jvm.MethodName) prog_13_method_15_code (3 : Nat) (Option.some Jvm.ClassFile.FieldType.boolean)) ∈ uw := uw_of (List.mem_append_right _ (List.mem_append_right _ (List.mem_append_right _ (List.mem_append_left _ (List.mem_of_getElem? (i := 196) rfl : _ ∈ tables_1_4))))) (by rfl)
set_option maxRecDepth 4000 in
theorem u917 : (Jvm.Cond.methodLink "WeddingRegisterModel" (144 : Nat) ({ cls := "WeddingRegisterModel", name := "parent", desc := "(II)I" } : Jvm.MethodName)) ∈ uw := uw_of (List.mem_append_right _ (List.mem_append_right _ (List.mem_append_right _ (List.mem_append_left _ (List.mem_of_getElem? (i := 197) rfl : _ ∈ tables_1_4))))) (by rfl)
set_option maxRecDepth 4000 in
theorem u919 : (Jvm.Cond.instanceMethod ({ cls := "WeddingRegisterModel", name := "parent", desc := "(II)I" } : Jvm.MethodName)) ∈ uw := uw_of (List.mem_append_right _ (List.mem_append_right _ (List.mem_append_right _ (List.mem_append_left _ (List.mem_of_getElem? (i := 199) rfl : _ ∈ tables_1_4))))) (by rfl)
set_option maxRecDepth 4000 in
theorem u920 : (Jvm.Cond.code ({ cls := "WeddingRegisterModel", name := "parent", desc := "(II)I" } : Jvm.MethodName) prog_13_method_16_code (3 : Nat) (Option.some Jvm.ClassFile.FieldType.int)) ∈ uw := uw_of (List.mem_append_right _ (List.mem_append_right _ (List.mem_append_right _ (List.mem_append_left _ (List.mem_of_getElem? (i := 200) rfl : _ ∈ tables_1_4))))) (by rfl)
set_option maxRecDepth 4000 in
theorem u921 : (Jvm.Cond.methodLink "WeddingRegisterLaw" (47 : Nat) ({ cls := "WeddingRegisterModel", name := "against", desc := "(III)I" } : Jvm.MethodName)) ∈ uw := uw_of (List.mem_append_right _ (List.mem_append_right _ (List.mem_append_right _ (List.mem_append_left _ (List.mem_of_getElem? (i := 201) rfl : _ ∈ tables_1_4))))) (by rfl)
set_option maxRecDepth 4000 in
theorem u922 : (Jvm.Cond.instanceMethod ({ cls := "WeddingRegisterModel", name := "against", desc := "(III)I" } : Jvm.MethodName)) ∈ uw := uw_of (List.mem_append_right _ (List.mem_append_right _ (List.mem_append_right _ (List.mem_append_left _ (List.mem_of_getElem? (i := 202) rfl : _ ∈ tables_1_4))))) (by rfl)
set_option maxRecDepth 4000 in
theorem u923 : (Jvm.Cond.selects "WeddingRegisterModel" ({ cls := "WeddingRegisterModel", name := "against", desc := "(III)I" } : Jvm.MethodName) ({ cls := "WeddingRegisterModel", name := "against", desc := "(III)I" } : Jvm.MethodName)) ∈ uw := uw_of (List.mem_append_right _ (List.mem_append_right _ (List.mem_append_right _ (List.mem_append_left _ (List.mem_of_getElem? (i := 203) rfl : _ ∈ tables_1_4))))) (by rfl)
set_option maxRecDepth 4000 in
theorem u924 : (Jvm.Cond.code ({ cls := "WeddingRegisterModel", name := "against", desc := "(III)I" } : Jvm.MethodName) prog_13_method_22_code (4 : Nat) (Option.some Jvm.ClassFile.FieldType.int)) ∈ uw := uw_of (List.mem_append_right _ (List.mem_append_right _ (List.mem_append_right _ (List.mem_append_left _ (List.mem_of_getElem? (i := 204) rfl : _ ∈ tables_1_4))))) (by rfl)
set_option maxRecDepth 4000 in
theorem u925 : (Jvm.Cond.methodLink "WeddingRegisterModel" (159 : Nat) ({ cls := "WeddingRegisterModel", name := "stands", desc := "(III)I" } : Jvm.MethodName)) ∈ uw := uw_of (List.mem_append_right _ (List.mem_append_right _ (List.mem_append_right _ (List.mem_append_left _ (List.mem_of_getElem? (i := 205) rfl : _ ∈ tables_1_4))))) (by rfl)
set_option maxRecDepth 4000 in
theorem u927 : (Jvm.Cond.instanceMethod ({ cls := "WeddingRegisterModel", name := "stands", desc := "(III)I" } : Jvm.MethodName)) ∈ uw := uw_of (List.mem_append_right _ (List.mem_append_right _ (List.mem_append_right _ (List.mem_append_left _ (List.mem_of_getElem? (i := 207) rfl : _ ∈ tables_1_4))))) (by rfl)
set_option maxRecDepth 4000 in
theorem u928 : (Jvm.Cond.code ({ cls := "WeddingRegisterModel", name := "stands", desc := "(III)I" } : Jvm.MethodName) prog_13_method_21_code (5 : Nat) (Option.some Jvm.ClassFile.FieldType.int)) ∈ uw := uw_of (List.mem_append_right _ (List.mem_append_right _ (List.mem_append_right _ (List.mem_append_left _ (List.mem_of_getElem? (i := 208) rfl : _ ∈ tables_1_4))))) (by rfl)
set_option maxRecDepth 4000 in
theorem u929 : (Jvm.Cond.methodLink "WeddingRegisterModel" (153 : Nat) ({ cls := "WeddingRegisterModel", name := "isYoung", desc := "(II)Z" } : Jvm.MethodName)) ∈ uw := uw_of (List.mem_append_right _ (List.mem_append_right _ (List.mem_append_right _ (List.mem_append_left _ (List.mem_of_getElem? (i := 209) rfl : _ ∈ tables_1_4))))) (by rfl)
set_option maxRecDepth 4000 in
theorem u931 : (Jvm.Cond.instanceMethod ({ cls := "WeddingRegisterModel", name := "isYoung", desc := "(II)Z" } : Jvm.MethodName)) ∈ uw := uw_of (List.mem_append_right _ (List.mem_append_right _ (List.mem_append_right _ (List.mem_append_left _ (List.mem_of_getElem? (i := 211) rfl : _ ∈ tables_1_4))))) (by rfl)
set_option maxRecDepth 4000 in
theorem u932 : (Jvm.Cond.code ({ cls := "WeddingRegisterModel", name := "isYoung", desc := "(II)Z" } : Jvm.MethodName) prog_13_method_19_code (3 : Nat) (Option.some Jvm.ClassFile.FieldType.boolean)) ∈ uw := uw_of (List.mem_append_right _ (List.mem_append_right _ (List.mem_append_right _ (List.mem_append_left _ (List.mem_of_getElem? (i := 212) rfl : _ ∈ tables_1_4))))) (by rfl)
set_option maxRecDepth 4000 in
theorem u933 : (Jvm.Cond.methodLink "WeddingRegisterModel" (124 : Nat) ({ cls := "WeddingRegisterModel", name := "asks", desc := "(III)I" } : Jvm.MethodName)) ∈ uw := uw_of (List.mem_append_right _ (List.mem_append_right _ (List.mem_append_right _ (List.mem_append_left _ (List.mem_of_getElem? (i := 213) rfl : _ ∈ tables_1_4))))) (by rfl)
set_option maxRecDepth 4000 in
theorem u935 : (Jvm.Cond.instanceMethod ({ cls := "WeddingRegisterModel", name := "asks", desc := "(III)I" } : Jvm.MethodName)) ∈ uw := uw_of (List.mem_append_right _ (List.mem_append_right _ (List.mem_append_right _ (List.mem_append_left _ (List.mem_of_getElem? (i := 215) rfl : _ ∈ tables_1_4))))) (by rfl)
set_option maxRecDepth 4000 in
theorem u936 : (Jvm.Cond.code ({ cls := "WeddingRegisterModel", name := "asks", desc := "(III)I" } : Jvm.MethodName) prog_13_method_7_code (4 : Nat) (Option.some Jvm.ClassFile.FieldType.int)) ∈ uw := uw_of (List.mem_append_right _ (List.mem_append_right _ (List.mem_append_right _ (List.mem_append_left _ (List.mem_of_getElem? (i := 216) rfl : _ ∈ tables_1_4))))) (by rfl)
set_option maxRecDepth 4000 in
theorem u937 : (Jvm.Cond.methodLink "WeddingRegisterModel" (110 : Nat) ({ cls := "WeddingRegisterModel", name := "inForce", desc := "(II)[I" } : Jvm.MethodName)) ∈ uw := uw_of (List.mem_append_right _ (List.mem_append_right _ (List.mem_append_right _ (List.mem_append_left _ (List.mem_of_getElem? (i := 217) rfl : _ ∈ tables_1_4))))) (by rfl)
set_option maxRecDepth 4000 in
theorem u939 : (Jvm.Cond.instanceMethod ({ cls := "WeddingRegisterModel", name := "inForce", desc := "(II)[I" } : Jvm.MethodName)) ∈ uw := uw_of (List.mem_append_right _ (List.mem_append_right _ (List.mem_append_right _ (List.mem_append_left _ (List.mem_of_getElem? (i := 219) rfl : _ ∈ tables_1_4))))) (by rfl)
set_option maxRecDepth 4000 in
theorem u940 : (Jvm.Cond.code ({ cls := "WeddingRegisterModel", name := "inForce", desc := "(II)[I" } : Jvm.MethodName) prog_13_method_6_code (5 : Nat) (Option.some (Jvm.ClassFile.FieldType.array Jvm.ClassFile.FieldType.int))) ∈ uw := uw_of (List.mem_append_right _ (List.mem_append_right _ (List.mem_append_right _ (List.mem_append_left _ (List.mem_of_getElem? (i := 220) rfl : _ ∈ tables_1_4))))) (by rfl)
set_option maxRecDepth 4000 in
theorem u941 : (Jvm.Cond.methodLink "WeddingRegisterModel" (156 : Nat) ({ cls := "WeddingRegisterModel", name := "lacks", desc := "(II)Z" } : Jvm.MethodName)) ∈ uw := uw_of (List.mem_append_right _ (List.mem_append_right _ (List.mem_append_right _ (List.mem_append_left _ (List.mem_of_getElem? (i := 221) rfl : _ ∈ tables_1_4))))) (by rfl)
set_option maxRecDepth 4000 in
theorem u943 : (Jvm.Cond.instanceMethod ({ cls := "WeddingRegisterModel", name := "lacks", desc := "(II)Z" } : Jvm.MethodName)) ∈ uw := uw_of (List.mem_append_right _ (List.mem_append_right _ (List.mem_append_right _ (List.mem_append_left _ (List.mem_of_getElem? (i := 223) rfl : _ ∈ tables_1_4))))) (by rfl)
set_option maxRecDepth 4000 in
theorem u944 : (Jvm.Cond.code ({ cls := "WeddingRegisterModel", name := "lacks", desc := "(II)Z" } : Jvm.MethodName) prog_13_method_20_code (4 : Nat) (Option.some Jvm.ClassFile.FieldType.boolean)) ∈ uw := uw_of (List.mem_append_right _ (List.mem_append_right _ (List.mem_append_right _ (List.mem_append_left _ (List.mem_of_getElem? (i := 224) rfl : _ ∈ tables_1_4))))) (by rfl)
set_option maxRecDepth 4000 in
theorem u945 : (Jvm.Cond.methodLink "WeddingRegisterModel" (150 : Nat) ({ cls := "WeddingRegisterModel", name := "hasPaper", desc := "(III)Z" } : Jvm.MethodName)) ∈ uw := uw_of (List.mem_append_right _ (List.mem_append_right _ (List.mem_append_right _ (List.mem_append_left _ (List.mem_of_getElem? (i := 225) rfl : _ ∈ tables_1_4))))) (by rfl)
set_option maxRecDepth 4000 in
theorem u947 : (Jvm.Cond.instanceMethod ({ cls := "WeddingRegisterModel", name := "hasPaper", desc := "(III)Z" } : Jvm.MethodName)) ∈ uw := uw_of (List.mem_append_right _ (List.mem_append_right _ (List.mem_append_right _ (List.mem_append_left _ (List.mem_of_getElem? (i := 227) rfl : _ ∈ tables_1_4))))) (by rfl)
set_option maxRecDepth 4000 in
theorem u948 : (Jvm.Cond.code ({ cls := "WeddingRegisterModel", name := "hasPaper", desc := "(III)Z" } : Jvm.MethodName) prog_13_method_10_code (5 : Nat) (Option.some Jvm.ClassFile.FieldType.boolean)) ∈ uw := uw_of (List.mem_append_right _ (List.mem_append_right _ (List.mem_append_right _ (List.mem_append_left _ (List.mem_of_getElem? (i := 228) rfl : _ ∈ tables_1_4))))) (by rfl)
set_option maxRecDepth 4000 in
theorem u949 : (Jvm.Cond.methodLink "WeddingRegisterLaw" (51 : Nat) ({ cls := "WeddingRegisterModel", name := "post", desc := "(II)I" } : Jvm.MethodName)) ∈ uw := uw_of (List.mem_append_right _ (List.mem_append_right _ (List.mem_append_right _ (List.mem_append_left _ (List.mem_of_getElem? (i := 229) rfl : _ ∈ tables_1_4))))) (by rfl)
set_option maxRecDepth 4000 in
theorem u950 : (Jvm.Cond.instanceMethod ({ cls := "WeddingRegisterModel", name := "post", desc := "(II)I" } : Jvm.MethodName)) ∈ uw := uw_of (List.mem_append_right _ (List.mem_append_right _ (List.mem_append_right _ (List.mem_append_left _ (List.mem_of_getElem? (i := 230) rfl : _ ∈ tables_1_4))))) (by rfl)
set_option maxRecDepth 4000 in
theorem u951 : (Jvm.Cond.selects "WeddingRegisterModel" ({ cls := "WeddingRegisterModel", name := "post", desc := "(II)I" } : Jvm.MethodName) ({ cls := "WeddingRegisterModel", name := "post", desc := "(II)I" } : Jvm.MethodName)) ∈ uw := uw_of (List.mem_append_right _ (List.mem_append_right _ (List.mem_append_right _ (List.mem_append_left _ (List.mem_of_getElem? (i := 231) rfl : _ ∈ tables_1_4))))) (by rfl)
set_option maxRecDepth 4000 in
theorem u952 : (Jvm.Cond.code ({ cls := "WeddingRegisterModel", name := "post", desc := "(II)I" } : Jvm.MethodName) prog_13_method_23_code (4 : Nat) (Option.some Jvm.ClassFile.FieldType.int)) ∈ uw := uw_of (List.mem_append_right _ (List.mem_append_right _ (List.mem_append_right _ (List.mem_append_left _ (List.mem_of_getElem? (i := 232) rfl : _ ∈ tables_1_4))))) (by rfl)
set_option maxRecDepth 4000 in
theorem u953 : (Jvm.Cond.methodLink "WeddingRegisterLaw" (55 : Nat) ({ cls := "WeddingRegisterModel", name := "withdraw", desc := "(I)Z" } : Jvm.MethodName)) ∈ uw := uw_of (List.mem_append_right _ (List.mem_append_right _ (List.mem_append_right _ (List.mem_append_left _ (List.mem_of_getElem? (i := 233) rfl : _ ∈ tables_1_4))))) (by rfl)
set_option maxRecDepth 4000 in
theorem u954 : (Jvm.Cond.instanceMethod ({ cls := "WeddingRegisterModel", name := "withdraw", desc := "(I)Z" } : Jvm.MethodName)) ∈ uw := uw_of (List.mem_append_right _ (List.mem_append_right _ (List.mem_append_right _ (List.mem_append_left _ (List.mem_of_getElem? (i := 234) rfl : _ ∈ tables_1_4))))) (by rfl)
set_option maxRecDepth 4000 in
theorem u955 : (Jvm.Cond.selects "WeddingRegisterModel" ({ cls := "WeddingRegisterModel", name := "withdraw", desc := "(I)Z" } : Jvm.MethodName) ({ cls := "WeddingRegisterModel", name := "withdraw", desc := "(I)Z" } : Jvm.MethodName)) ∈ uw := uw_of (List.mem_append_right _ (List.mem_append_right _ (List.mem_append_right _ (List.mem_append_left _ (List.mem_of_getElem? (i := 235) rfl : _ ∈ tables_1_4))))) (by rfl)
set_option maxRecDepth 4000 in
theorem u956 : (Jvm.Cond.code ({ cls := "WeddingRegisterModel", name := "withdraw", desc := "(I)Z" } : Jvm.MethodName) prog_13_method_24_code (2 : Nat) (Option.some Jvm.ClassFile.FieldType.boolean)) ∈ uw := uw_of (List.mem_append_right _ (List.mem_append_right _ (List.mem_append_right _ (List.mem_append_left _ (List.mem_of_getElem? (i := 236) rfl : _ ∈ tables_1_4))))) (by rfl)
set_option maxRecDepth 4000 in
theorem u957 : (Jvm.Cond.methodLink "WeddingRegisterModel" (162 : Nat) ({ cls := "WeddingRegisterModel", name := "isNotice", desc := "(I)Z" } : Jvm.MethodName)) ∈ uw := uw_of (List.mem_append_right _ (List.mem_append_right _ (List.mem_append_right _ (List.mem_append_left _ (List.mem_of_getElem? (i := 237) rfl : _ ∈ tables_1_4))))) (by rfl)
set_option maxRecDepth 4000 in
theorem u959 : (Jvm.Cond.instanceMethod ({ cls := "WeddingRegisterModel", name := "isNotice", desc := "(I)Z" } : Jvm.MethodName)) ∈ uw := uw_of (List.mem_append_right _ (List.mem_append_right _ (List.mem_append_right _ (List.mem_append_left _ (List.mem_of_getElem? (i := 239) rfl : _ ∈ tables_1_4))))) (by rfl)
set_option maxRecDepth 4000 in
theorem u960 : (Jvm.Cond.code ({ cls := "WeddingRegisterModel", name := "isNotice", desc := "(I)Z" } : Jvm.MethodName) prog_13_method_4_code (2 : Nat) (Option.some Jvm.ClassFile.FieldType.boolean)) ∈ uw := uw_of (List.mem_append_right _ (List.mem_append_right _ (List.mem_append_right _ (List.mem_append_right _ ((List.mem_of_getElem? (i := 0) rfl : _ ∈ tables_1_5)))))) (by rfl)
set_option maxRecDepth 4000 in
theorem u961 : (Jvm.Cond.methodLink "WeddingRegisterLaw" (59 : Nat) ({ cls := "WeddingRegisterModel", name := "hung", desc := "(II)I" } : Jvm.MethodName)) ∈ uw := uw_of (List.mem_append_right _ (List.mem_append_right _ (List.mem_append_right _ (List.mem_append_right _ ((List.mem_of_getElem? (i := 1) rfl : _ ∈ tables_1_5)))))) (by rfl)
set_option maxRecDepth 4000 in
theorem u962 : (Jvm.Cond.instanceMethod ({ cls := "WeddingRegisterModel", name := "hung", desc := "(II)I" } : Jvm.MethodName)) ∈ uw := uw_of (List.mem_append_right _ (List.mem_append_right _ (List.mem_append_right _ (List.mem_append_right _ ((List.mem_of_getElem? (i := 2) rfl : _ ∈ tables_1_5)))))) (by rfl)
set_option maxRecDepth 4000 in
theorem u963 : (Jvm.Cond.selects "WeddingRegisterModel" ({ cls := "WeddingRegisterModel", name := "hung", desc := "(II)I" } : Jvm.MethodName) ({ cls := "WeddingRegisterModel", name := "hung", desc := "(II)I" } : Jvm.MethodName)) ∈ uw := uw_of (List.mem_append_right _ (List.mem_append_right _ (List.mem_append_right _ (List.mem_append_right _ ((List.mem_of_getElem? (i := 3) rfl : _ ∈ tables_1_5)))))) (by rfl)
set_option maxRecDepth 4000 in
theorem u964 : (Jvm.Cond.code ({ cls := "WeddingRegisterModel", name := "hung", desc := "(II)I" } : Jvm.MethodName) prog_13_method_26_code (3 : Nat) (Option.some Jvm.ClassFile.FieldType.int)) ∈ uw := uw_of (List.mem_append_right _ (List.mem_append_right _ (List.mem_append_right _ (List.mem_append_right _ ((List.mem_of_getElem? (i := 4) rfl : _ ∈ tables_1_5)))))) (by rfl)
set_option maxRecDepth 4000 in
theorem u965 : (Jvm.Cond.methodLink "WeddingRegisterModel" (165 : Nat) ({ cls := "WeddingRegisterModel", name := "hungOf", desc := "(II)I" } : Jvm.MethodName)) ∈ uw := uw_of (List.mem_append_right _ (List.mem_append_right _ (List.mem_append_right _ (List.mem_append_right _ ((List.mem_of_getElem? (i := 5) rfl : _ ∈ tables_1_5)))))) (by rfl)
set_option maxRecDepth 4000 in
theorem u967 : (Jvm.Cond.instanceMethod ({ cls := "WeddingRegisterModel", name := "hungOf", desc := "(II)I" } : Jvm.MethodName)) ∈ uw := uw_of (List.mem_append_right _ (List.mem_append_right _ (List.mem_append_right _ (List.mem_append_right _ ((List.mem_of_getElem? (i := 7) rfl : _ ∈ tables_1_5)))))) (by rfl)
set_option maxRecDepth 4000 in
theorem u968 : (Jvm.Cond.code ({ cls := "WeddingRegisterModel", name := "hungOf", desc := "(II)I" } : Jvm.MethodName) prog_13_method_25_code (5 : Nat) (Option.some Jvm.ClassFile.FieldType.int)) ∈ uw := uw_of (List.mem_append_right _ (List.mem_append_right _ (List.mem_append_right _ (List.mem_append_right _ ((List.mem_of_getElem? (i := 8) rfl : _ ∈ tables_1_5)))))) (by rfl)
set_option maxRecDepth 4000 in
theorem u969 : (Jvm.Cond.methodLink "WeddingRegisterLaw" (63 : Nat) ({ cls := "WeddingRegisterModel", name := "ripe", desc := "(I)I" } : Jvm.MethodName)) ∈ uw := uw_of (List.mem_append_right _ (List.mem_append_right _ (List.mem_append_right _ (List.mem_append_right _ ((List.mem_of_getElem? (i := 9) rfl : _ ∈ tables_1_5)))))) (by rfl)
set_option maxRecDepth 4000 in
theorem u970 : (Jvm.Cond.instanceMethod ({ cls := "WeddingRegisterModel", name := "ripe", desc := "(I)I" } : Jvm.MethodName)) ∈ uw := uw_of (List.mem_append_right _ (List.mem_append_right _ (List.mem_append_right _ (List.mem_append_right _ ((List.mem_of_getElem? (i := 10) rfl : _ ∈ tables_1_5)))))) (by rfl)
set_option maxRecDepth 4000 in
theorem u971 : (Jvm.Cond.selects "WeddingRegisterModel" ({ cls := "WeddingRegisterModel", name := "ripe", desc := "(I)I" } : Jvm.MethodName) ({ cls := "WeddingRegisterModel", name := "ripe", desc := "(I)I" } : Jvm.MethodName)) ∈ uw := uw_of (List.mem_append_right _ (List.mem_append_right _ (List.mem_append_right _ (List.mem_append_right _ ((List.mem_of_getElem? (i := 11) rfl : _ ∈ tables_1_5)))))) (by rfl)
set_option maxRecDepth 4000 in
theorem u972 : (Jvm.Cond.code ({ cls := "WeddingRegisterModel", name := "ripe", desc := "(I)I" } : Jvm.MethodName) prog_13_method_29_code (2 : Nat) (Option.some Jvm.ClassFile.FieldType.int)) ∈ uw := uw_of (List.mem_append_right _ (List.mem_append_right _ (List.mem_append_right _ (List.mem_append_right _ ((List.mem_of_getElem? (i := 12) rfl : _ ∈ tables_1_5)))))) (by rfl)
set_option maxRecDepth 4000 in
theorem u973 : (Jvm.Cond.methodLink "WeddingRegisterModel" (174 : Nat) ({ cls := "WeddingRegisterModel", name := "ripeOf", desc := "(I)I" } : Jvm.MethodName)) ∈ uw := uw_of (List.mem_append_right _ (List.mem_append_right _ (List.mem_append_right _ (List.mem_append_right _ ((List.mem_of_getElem? (i := 13) rfl : _ ∈ tables_1_5)))))) (by rfl)
set_option maxRecDepth 4000 in
theorem u975 : (Jvm.Cond.instanceMethod ({ cls := "WeddingRegisterModel", name := "ripeOf", desc := "(I)I" } : Jvm.MethodName)) ∈ uw := uw_of (List.mem_append_right _ (List.mem_append_right _ (List.mem_append_right _ (List.mem_append_right _ ((List.mem_of_getElem? (i := 15) rfl : _ ∈ tables_1_5)))))) (by rfl)
set_option maxRecDepth 4000 in
theorem u976 : (Jvm.Cond.code ({ cls := "WeddingRegisterModel", name := "ripeOf", desc := "(I)I" } : Jvm.MethodName) prog_13_method_28_code (4 : Nat) (Option.some Jvm.ClassFile.FieldType.int)) ∈ uw := uw_of (List.mem_append_right _ (List.mem_append_right _ (List.mem_append_right _ (List.mem_append_right _ ((List.mem_of_getElem? (i := 16) rfl : _ ∈ tables_1_5)))))) (by rfl)
set_option maxRecDepth 4000 in
theorem u977 : (Jvm.Cond.methodLink "WeddingRegisterModel" (171 : Nat) ({ cls := "WeddingRegisterModel", name := "wanted", desc := "(II)I" } : Jvm.MethodName)) ∈ uw := uw_of (List.mem_append_right _ (List.mem_append_right _ (List.mem_append_right _ (List.mem_append_right _ ((List.mem_of_getElem? (i := 17) rfl : _ ∈ tables_1_5)))))) (by rfl)
set_option maxRecDepth 4000 in
theorem u979 : (Jvm.Cond.instanceMethod ({ cls := "WeddingRegisterModel", name := "wanted", desc := "(II)I" } : Jvm.MethodName)) ∈ uw := uw_of (List.mem_append_right _ (List.mem_append_right _ (List.mem_append_right _ (List.mem_append_right _ ((List.mem_of_getElem? (i := 19) rfl : _ ∈ tables_1_5)))))) (by rfl)
set_option maxRecDepth 4000 in
theorem u980 : (Jvm.Cond.code ({ cls := "WeddingRegisterModel", name := "wanted", desc := "(II)I" } : Jvm.MethodName) prog_13_method_27_code (3 : Nat) (Option.some Jvm.ClassFile.FieldType.int)) ∈ uw := uw_of (List.mem_append_right _ (List.mem_append_right _ (List.mem_append_right _ (List.mem_append_right _ ((List.mem_of_getElem? (i := 20) rfl : _ ∈ tables_1_5)))))) (by rfl)
set_option maxRecDepth 4000 in
theorem u981 : (Jvm.Cond.methodLink "WeddingRegisterModel" (168 : Nat) ({ cls := "java/lang/Math", name := "max", desc := "(II)I" } : Jvm.MethodName)) ∈ uw := uw_of (List.mem_append_right _ (List.mem_append_right _ (List.mem_append_right _ (List.mem_append_right _ ((List.mem_of_getElem? (i := 21) rfl : _ ∈ tables_1_5)))))) (by rfl)
set_option maxRecDepth 4000 in
theorem u982 : (Jvm.Cond.methodLink "WeddingRegisterLaw" (67 : Nat) ({ cls := "WeddingRegisterModel", name := "object", desc := "(I)I" } : Jvm.MethodName)) ∈ uw := uw_of (List.mem_append_right _ (List.mem_append_right _ (List.mem_append_right _ (List.mem_append_right _ ((List.mem_of_getElem? (i := 22) rfl : _ ∈ tables_1_5)))))) (by rfl)
set_option maxRecDepth 4000 in
theorem u983 : (Jvm.Cond.instanceMethod ({ cls := "WeddingRegisterModel", name := "object", desc := "(I)I" } : Jvm.MethodName)) ∈ uw := uw_of (List.mem_append_right _ (List.mem_append_right _ (List.mem_append_right _ (List.mem_append_right _ ((List.mem_of_getElem? (i := 23) rfl : _ ∈ tables_1_5)))))) (by rfl)
set_option maxRecDepth 4000 in
theorem u984 : (Jvm.Cond.selects "WeddingRegisterModel" ({ cls := "WeddingRegisterModel", name := "object", desc := "(I)I" } : Jvm.MethodName) ({ cls := "WeddingRegisterModel", name := "object", desc := "(I)I" } : Jvm.MethodName)) ∈ uw := uw_of (List.mem_append_right _ (List.mem_append_right _ (List.mem_append_right _ (List.mem_append_right _ ((List.mem_of_getElem? (i := 24) rfl : _ ∈ tables_1_5)))))) (by rfl)
set_option maxRecDepth 4000 in
theorem u985 : (Jvm.Cond.code ({ cls := "WeddingRegisterModel", name := "object", desc := "(I)I" } : Jvm.MethodName) prog_13_method_32_code (3 : Nat) (Option.some Jvm.ClassFile.FieldType.int)) ∈ uw := uw_of (List.mem_append_right _ (List.mem_append_right _ (List.mem_append_right _ (List.mem_append_right _ ((List.mem_of_getElem? (i := 25) rfl : _ ∈ tables_1_5)))))) (by rfl)
set_option maxRecDepth 4000 in
theorem u986 : (Jvm.Cond.methodLink "WeddingRegisterLaw" (72 : Nat) ({ cls := "WeddingRegisterModel", name := "judge", desc := "(IZ)Z" } : Jvm.MethodName)) ∈ uw := uw_of (List.mem_append_right _ (List.mem_append_right _ (List.mem_append_right _ (List.mem_append_right _ ((List.mem_of_getElem? (i := 26) rfl : _ ∈ tables_1_5)))))) (by rfl)
set_option maxRecDepth 4000 in
theorem u987 : (Jvm.Cond.instanceMethod ({ cls := "WeddingRegisterModel", name := "judge", desc := "(IZ)Z" } : Jvm.MethodName)) ∈ uw := uw_of (List.mem_append_right _ (List.mem_append_right _ (List.mem_append_right _ (List.mem_append_right _ ((List.mem_of_getElem? (i := 27) rfl : _ ∈ tables_1_5)))))) (by rfl)
set_option maxRecDepth 4000 in
theorem u988 : (Jvm.Cond.selects "WeddingRegisterModel" ({ cls := "WeddingRegisterModel", name := "judge", desc := "(IZ)Z" } : Jvm.MethodName) ({ cls := "WeddingRegisterModel", name := "judge", desc := "(IZ)Z" } : Jvm.MethodName)) ∈ uw := uw_of (List.mem_append_right _ (List.mem_append_right _ (List.mem_append_right _ (List.mem_append_right _ ((List.mem_of_getElem? (i := 28) rfl : _ ∈ tables_1_5)))))) (by rfl)
set_option maxRecDepth 4000 in
theorem u989 : (Jvm.Cond.code ({ cls := "WeddingRegisterModel", name := "judge", desc := "(IZ)Z" } : Jvm.MethodName) prog_13_method_33_code (3 : Nat) (Option.some Jvm.ClassFile.FieldType.boolean)) ∈ uw := uw_of (List.mem_append_right _ (List.mem_append_right _ (List.mem_append_right _ (List.mem_append_right _ ((List.mem_of_getElem? (i := 29) rfl : _ ∈ tables_1_5)))))) (by rfl)
set_option maxRecDepth 4000 in
theorem u990 : (Jvm.Cond.methodLink "WeddingRegisterLaw" (76 : Nat) ({ cls := "WeddingRegisterModel", name := "registrar", desc := "(I)I" } : Jvm.MethodName)) ∈ uw := uw_of (List.mem_append_right _ (List.mem_append_right _ (List.mem_append_right _ (List.mem_append_right _ ((List.mem_of_getElem? (i := 30) rfl : _ ∈ tables_1_5)))))) (by rfl)
set_option maxRecDepth 4000 in
theorem u991 : (Jvm.Cond.instanceMethod ({ cls := "WeddingRegisterModel", name := "registrar", desc := "(I)I" } : Jvm.MethodName)) ∈ uw := uw_of (List.mem_append_right _ (List.mem_append_right _ (List.mem_append_right _ (List.mem_append_right _ ((List.mem_of_getElem? (i := 31) rfl : _ ∈ tables_1_5)))))) (by rfl)
set_option maxRecDepth 4000 in
theorem u992 : (Jvm.Cond.selects "WeddingRegisterModel" ({ cls := "WeddingRegisterModel", name := "registrar", desc := "(I)I" } : Jvm.MethodName) ({ cls := "WeddingRegisterModel", name := "registrar", desc := "(I)I" } : Jvm.MethodName)) ∈ uw := uw_of (List.mem_append_right _ (List.mem_append_right _ (List.mem_append_right _ (List.mem_append_right _ ((List.mem_of_getElem? (i := 32) rfl : _ ∈ tables_1_5)))))) (by rfl)
set_option maxRecDepth 4000 in
theorem u993 : (Jvm.Cond.code ({ cls := "WeddingRegisterModel", name := "registrar", desc := "(I)I" } : Jvm.MethodName) prog_13_method_34_code (2 : Nat) (Option.some Jvm.ClassFile.FieldType.int)) ∈ uw := uw_of (List.mem_append_right _ (List.mem_append_right _ (List.mem_append_right _ (List.mem_append_right _ ((List.mem_of_getElem? (i := 33) rfl : _ ∈ tables_1_5)))))) (by rfl)
set_option maxRecDepth 4000 in
theorem u994 : (Jvm.Cond.methodLink "WeddingRegisterLaw" (80 : Nat) ({ cls := "WeddingRegisterModel", name := "book", desc := "(III)I" } : Jvm.MethodName)) ∈ uw := uw_of (List.mem_append_right _ (List.mem_append_right _ (List.mem_append_right _ (List.mem_append_right _ ((List.mem_of_getElem? (i := 34) rfl : _ ∈ tables_1_5)))))) (by rfl)
set_option maxRecDepth 4000 in
theorem u995 : (Jvm.Cond.instanceMethod ({ cls := "WeddingRegisterModel", name := "book", desc := "(III)I" } : Jvm.MethodName)) ∈ uw := uw_of (List.mem_append_right _ (List.mem_append_right _ (List.mem_append_right _ (List.mem_append_right _ ((List.mem_of_getElem? (i := 35) rfl : _ ∈ tables_1_5)))))) (by rfl)
set_option maxRecDepth 4000 in
theorem u996 : (Jvm.Cond.selects "WeddingRegisterModel" ({ cls := "WeddingRegisterModel", name := "book", desc := "(III)I" } : Jvm.MethodName) ({ cls := "WeddingRegisterModel", name := "book", desc := "(III)I" } : Jvm.MethodName)) ∈ uw := uw_of (List.mem_append_right _ (List.mem_append_right _ (List.mem_append_right _ (List.mem_append_right _ ((List.mem_of_getElem? (i := 36) rfl : _ ∈ tables_1_5)))))) (by rfl)
set_option maxRecDepth 4000 in
theorem u997 : (Jvm.Cond.code ({ cls := "WeddingRegisterModel", name := "book", desc := "(III)I" } : Jvm.MethodName) prog_13_method_36_code (8 : Nat) (Option.some Jvm.ClassFile.FieldType.int)) ∈ uw := uw_of (List.mem_append_right _ (List.mem_append_right _ (List.mem_append_right _ (List.mem_append_right _ ((List.mem_of_getElem? (i := 37) rfl : _ ∈ tables_1_5)))))) (by rfl)
set_option maxRecDepth 4000 in
theorem u998 : (Jvm.Cond.methodLink "WeddingRegisterModel" (190 : Nat) ({ cls := "WeddingRegisterModel", name := "bars", desc := "(IIIII)I" } : Jvm.MethodName)) ∈ uw := uw_of (List.mem_append_right _ (List.mem_append_right _ (List.mem_append_right _ (List.mem_append_right _ ((List.mem_of_getElem? (i := 38) rfl : _ ∈ tables_1_5)))))) (by rfl)
set_option maxRecDepth 4000 in
theorem u1000 : (Jvm.Cond.instanceMethod ({ cls := "WeddingRegisterModel", name := "bars", desc := "(IIIII)I" } : Jvm.MethodName)) ∈ uw := uw_of (List.mem_append_right _ (List.mem_append_right _ (List.mem_append_right _ (List.mem_append_right _ ((List.mem_of_getElem? (i := 40) rfl : _ ∈ tables_1_5)))))) (by rfl)
set_option maxRecDepth 4000 in
theorem u1001 : (Jvm.Cond.code ({ cls := "WeddingRegisterModel", name := "bars", desc := "(IIIII)I" } : Jvm.MethodName) prog_13_method_35_code (11 : Nat) (Option.some Jvm.ClassFile.FieldType.int)) ∈ uw := uw_of (List.mem_append_right _ (List.mem_append_right _ (List.mem_append_right _ (List.mem_append_right _ ((List.mem_of_getElem? (i := 41) rfl : _ ∈ tables_1_5)))))) (by rfl)
set_option maxRecDepth 4000 in
theorem u1002 : (Jvm.Cond.methodLink "WeddingRegisterModel" (187 : Nat) ({ cls := "WeddingRegisterModel", name := "isRipe", desc := "(II)Z" } : Jvm.MethodName)) ∈ uw := uw_of (List.mem_append_right _ (List.mem_append_right _ (List.mem_append_right _ (List.mem_append_right _ ((List.mem_of_getElem? (i := 42) rfl : _ ∈ tables_1_5)))))) (by rfl)
set_option maxRecDepth 4000 in
theorem u1004 : (Jvm.Cond.instanceMethod ({ cls := "WeddingRegisterModel", name := "isRipe", desc := "(II)Z" } : Jvm.MethodName)) ∈ uw := uw_of (List.mem_append_right _ (List.mem_append_right _ (List.mem_append_right _ (List.mem_append_right _ ((List.mem_of_getElem? (i := 44) rfl : _ ∈ tables_1_5)))))) (by rfl)
set_option maxRecDepth 4000 in
theorem u1005 : (Jvm.Cond.code ({ cls := "WeddingRegisterModel", name := "isRipe", desc := "(II)Z" } : Jvm.MethodName) prog_13_method_31_code (3 : Nat) (Option.some Jvm.ClassFile.FieldType.boolean)) ∈ uw := uw_of (List.mem_append_right _ (List.mem_append_right _ (List.mem_append_right _ (List.mem_append_right _ ((List.mem_of_getElem? (i := 45) rfl : _ ∈ tables_1_5)))))) (by rfl)
set_option maxRecDepth 4000 in
theorem u1006 : (Jvm.Cond.methodLink "WeddingRegisterModel" (181 : Nat) ({ cls := "WeddingRegisterModel", name := "objected", desc := "(I)I" } : Jvm.MethodName)) ∈ uw := uw_of (List.mem_append_right _ (List.mem_append_right _ (List.mem_append_right _ (List.mem_append_right _ ((List.mem_of_getElem? (i := 46) rfl : _ ∈ tables_1_5)))))) (by rfl)
set_option maxRecDepth 4000 in
theorem u1008 : (Jvm.Cond.instanceMethod ({ cls := "WeddingRegisterModel", name := "objected", desc := "(I)I" } : Jvm.MethodName)) ∈ uw := uw_of (List.mem_append_right _ (List.mem_append_right _ (List.mem_append_right _ (List.mem_append_right _ ((List.mem_of_getElem? (i := 48) rfl : _ ∈ tables_1_5)))))) (by rfl)
set_option maxRecDepth 4000 in
theorem u1009 : (Jvm.Cond.code ({ cls := "WeddingRegisterModel", name := "objected", desc := "(I)I" } : Jvm.MethodName) prog_13_method_30_code (4 : Nat) (Option.some Jvm.ClassFile.FieldType.int)) ∈ uw := uw_of (List.mem_append_right _ (List.mem_append_right _ (List.mem_append_right _ (List.mem_append_right _ ((List.mem_of_getElem? (i := 49) rfl : _ ∈ tables_1_5)))))) (by rfl)
set_option maxRecDepth 4000 in
theorem u1010 : (Jvm.Cond.methodLink "WeddingRegisterLaw" (84 : Nat) ({ cls := "WeddingRegisterModel", name := "order", desc := "(I)I" } : Jvm.MethodName)) ∈ uw := uw_of (List.mem_append_right _ (List.mem_append_right _ (List.mem_append_right _ (List.mem_append_right _ ((List.mem_of_getElem? (i := 50) rfl : _ ∈ tables_1_5)))))) (by rfl)
set_option maxRecDepth 4000 in
theorem u1011 : (Jvm.Cond.instanceMethod ({ cls := "WeddingRegisterModel", name := "order", desc := "(I)I" } : Jvm.MethodName)) ∈ uw := uw_of (List.mem_append_right _ (List.mem_append_right _ (List.mem_append_right _ (List.mem_append_right _ ((List.mem_of_getElem? (i := 51) rfl : _ ∈ tables_1_5)))))) (by rfl)
set_option maxRecDepth 4000 in
theorem u1012 : (Jvm.Cond.selects "WeddingRegisterModel" ({ cls := "WeddingRegisterModel", name := "order", desc := "(I)I" } : Jvm.MethodName) ({ cls := "WeddingRegisterModel", name := "order", desc := "(I)I" } : Jvm.MethodName)) ∈ uw := uw_of (List.mem_append_right _ (List.mem_append_right _ (List.mem_append_right _ (List.mem_append_right _ ((List.mem_of_getElem? (i := 52) rfl : _ ∈ tables_1_5)))))) (by rfl)
set_option maxRecDepth 4000 in
theorem u1013 : (Jvm.Cond.code ({ cls := "WeddingRegisterModel", name := "order", desc := "(I)I" } : Jvm.MethodName) prog_13_method_38_code (4 : Nat) (Option.some Jvm.ClassFile.FieldType.int)) ∈ uw := uw_of (List.mem_append_right _ (List.mem_append_right _ (List.mem_append_right _ (List.mem_append_right _ ((List.mem_of_getElem? (i := 53) rfl : _ ∈ tables_1_5)))))) (by rfl)
set_option maxRecDepth 4000 in
theorem u1014 : (Jvm.Cond.methodLink "WeddingRegisterModel" (194 : Nat) ({ cls := "WeddingRegisterModel", name := "finds", desc := "(II)Z" } : Jvm.MethodName)) ∈ uw := uw_of (List.mem_append_right _ (List.mem_append_right _ (List.mem_append_right _ (List.mem_append_right _ ((List.mem_of_getElem? (i := 54) rfl : _ ∈ tables_1_5)))))) (by rfl)
set_option maxRecDepth 4000 in
theorem u1016 : (Jvm.Cond.instanceMethod ({ cls := "WeddingRegisterModel", name := "finds", desc := "(II)Z" } : Jvm.MethodName)) ∈ uw := uw_of (List.mem_append_right _ (List.mem_append_right _ (List.mem_append_right _ (List.mem_append_right _ ((List.mem_of_getElem? (i := 56) rfl : _ ∈ tables_1_5)))))) (by rfl)
set_option maxRecDepth 4000 in
theorem u1017 : (Jvm.Cond.code ({ cls := "WeddingRegisterModel", name := "finds", desc := "(II)Z" } : Jvm.MethodName) prog_13_method_37_code (6 : Nat) (Option.some Jvm.ClassFile.FieldType.boolean)) ∈ uw := uw_of (List.mem_append_right _ (List.mem_append_right _ (List.mem_append_right _ (List.mem_append_right _ ((List.mem_of_getElem? (i := 57) rfl : _ ∈ tables_1_5)))))) (by rfl)
set_option maxRecDepth 4000 in
theorem u1018 : (Jvm.Cond.methodLink "WeddingRegisterLaw" (88 : Nat) ({ cls := "WeddingRegisterModel", name := "wed", desc := "(I)I" } : Jvm.MethodName)) ∈ uw := uw_of (List.mem_append_right _ (List.mem_append_right _ (List.mem_append_right _ (List.mem_append_right _ ((List.mem_of_getElem? (i := 58) rfl : _ ∈ tables_1_5)))))) (by rfl)
set_option maxRecDepth 4000 in
theorem u1019 : (Jvm.Cond.instanceMethod ({ cls := "WeddingRegisterModel", name := "wed", desc := "(I)I" } : Jvm.MethodName)) ∈ uw := uw_of (List.mem_append_right _ (List.mem_append_right _ (List.mem_append_right _ (List.mem_append_right _ ((List.mem_of_getElem? (i := 59) rfl : _ ∈ tables_1_5)))))) (by rfl)
set_option maxRecDepth 4000 in
theorem u1020 : (Jvm.Cond.selects "WeddingRegisterModel" ({ cls := "WeddingRegisterModel", name := "wed", desc := "(I)I" } : Jvm.MethodName) ({ cls := "WeddingRegisterModel", name := "wed", desc := "(I)I" } : Jvm.MethodName)) ∈ uw := uw_of (List.mem_append_right _ (List.mem_append_right _ (List.mem_append_right _ (List.mem_append_right _ ((List.mem_of_getElem? (i := 60) rfl : _ ∈ tables_1_5)))))) (by rfl)
set_option maxRecDepth 4000 in
theorem u1021 : (Jvm.Cond.code ({ cls := "WeddingRegisterModel", name := "wed", desc := "(I)I" } : Jvm.MethodName) prog_13_method_39_code (5 : Nat) (Option.some Jvm.ClassFile.FieldType.int)) ∈ uw := uw_of (List.mem_append_right _ (List.mem_append_right _ (List.mem_append_right _ (List.mem_append_right _ ((List.mem_of_getElem? (i := 61) rfl : _ ∈ tables_1_5)))))) (by rfl)
set_option maxRecDepth 4000 in
theorem u1022 : (Jvm.Cond.methodLink "WeddingRegisterLaw" (92 : Nat) ({ cls := "WeddingRegisterModel", name := "part", desc := "(I)Z" } : Jvm.MethodName)) ∈ uw := uw_of (List.mem_append_right _ (List.mem_append_right _ (List.mem_append_right _ (List.mem_append_right _ ((List.mem_of_getElem? (i := 62) rfl : _ ∈ tables_1_5)))))) (by rfl)
set_option maxRecDepth 4000 in
theorem u1023 : (Jvm.Cond.instanceMethod ({ cls := "WeddingRegisterModel", name := "part", desc := "(I)Z" } : Jvm.MethodName)) ∈ uw := uw_of (List.mem_append_right _ (List.mem_append_right _ (List.mem_append_right _ (List.mem_append_right _ ((List.mem_of_getElem? (i := 63) rfl : _ ∈ tables_1_5)))))) (by rfl)
set_option maxRecDepth 4000 in
theorem u1024 : (Jvm.Cond.selects "WeddingRegisterModel" ({ cls := "WeddingRegisterModel", name := "part", desc := "(I)Z" } : Jvm.MethodName) ({ cls := "WeddingRegisterModel", name := "part", desc := "(I)Z" } : Jvm.MethodName)) ∈ uw := uw_of (List.mem_append_right _ (List.mem_append_right _ (List.mem_append_right _ (List.mem_append_right _ ((List.mem_of_getElem? (i := 64) rfl : _ ∈ tables_1_5)))))) (by rfl)
set_option maxRecDepth 4000 in
theorem u1025 : (Jvm.Cond.code ({ cls := "WeddingRegisterModel", name := "part", desc := "(I)Z" } : Jvm.MethodName) prog_13_method_40_code (2 : Nat) (Option.some Jvm.ClassFile.FieldType.boolean)) ∈ uw := uw_of (List.mem_append_right _ (List.mem_append_right _ (List.mem_append_right _ (List.mem_append_right _ ((List.mem_of_getElem? (i := 65) rfl : _ ∈ tables_1_5)))))) (by rfl)
set_option maxRecDepth 4000 in
theorem u1026 : (Jvm.Cond.methodLink "WeddingRegisterLaw" (96 : Nat) ({ cls := "WeddingRegisterModel", name := "correct", desc := "(III)Z" } : Jvm.MethodName)) ∈ uw := uw_of (List.mem_append_right _ (List.mem_append_right _ (List.mem_append_right _ (List.mem_append_right _ ((List.mem_of_getElem? (i := 66) rfl : _ ∈ tables_1_5)))))) (by rfl)
set_option maxRecDepth 4000 in
theorem u1027 : (Jvm.Cond.instanceMethod ({ cls := "WeddingRegisterModel", name := "correct", desc := "(III)Z" } : Jvm.MethodName)) ∈ uw := uw_of (List.mem_append_right _ (List.mem_append_right _ (List.mem_append_right _ (List.mem_append_right _ ((List.mem_of_getElem? (i := 67) rfl : _ ∈ tables_1_5)))))) (by rfl)
set_option maxRecDepth 4000 in
theorem u1028 : (Jvm.Cond.selects "WeddingRegisterModel" ({ cls := "WeddingRegisterModel", name := "correct", desc := "(III)Z" } : Jvm.MethodName) ({ cls := "WeddingRegisterModel", name := "correct", desc := "(III)Z" } : Jvm.MethodName)) ∈ uw := uw_of (List.mem_append_right _ (List.mem_append_right _ (List.mem_append_right _ (List.mem_append_right _ ((List.mem_of_getElem? (i := 68) rfl : _ ∈ tables_1_5)))))) (by rfl)
set_option maxRecDepth 4000 in
theorem u1029 : (Jvm.Cond.code ({ cls := "WeddingRegisterModel", name := "correct", desc := "(III)Z" } : Jvm.MethodName) prog_13_method_41_code (4 : Nat) (Option.some Jvm.ClassFile.FieldType.boolean)) ∈ uw := uw_of (List.mem_append_right _ (List.mem_append_right _ (List.mem_append_right _ (List.mem_append_right _ ((List.mem_of_getElem? (i := 69) rfl : _ ∈ tables_1_5)))))) (by rfl)
set_option maxRecDepth 4000 in
theorem u1030 : (Jvm.Cond.methodLink "WeddingRegisterLaw" (100 : Nat) ({ cls := "WeddingRegisterModel", name := "entry", desc := "(III)I" } : Jvm.MethodName)) ∈ uw := uw_of (List.mem_append_right _ (List.mem_append_right _ (List.mem_append_right _ (List.mem_append_right _ ((List.mem_of_getElem? (i := 70) rfl : _ ∈ tables_1_5)))))) (by rfl)
set_option maxRecDepth 4000 in
theorem u1031 : (Jvm.Cond.instanceMethod ({ cls := "WeddingRegisterModel", name := "entry", desc := "(III)I" } : Jvm.MethodName)) ∈ uw := uw_of (List.mem_append_right _ (List.mem_append_right _ (List.mem_append_right _ (List.mem_append_right _ ((List.mem_of_getElem? (i := 71) rfl : _ ∈ tables_1_5)))))) (by rfl)
set_option maxRecDepth 4000 in
theorem u1032 : (Jvm.Cond.selects "WeddingRegisterModel" ({ cls := "WeddingRegisterModel", name := "entry", desc := "(III)I" } : Jvm.MethodName) ({ cls := "WeddingRegisterModel", name := "entry", desc := "(III)I" } : Jvm.MethodName)) ∈ uw := uw_of (List.mem_append_right _ (List.mem_append_right _ (List.mem_append_right _ (List.mem_append_right _ ((List.mem_of_getElem? (i := 72) rfl : _ ∈ tables_1_5)))))) (by rfl)
set_option maxRecDepth 4000 in
theorem u1033 : (Jvm.Cond.code ({ cls := "WeddingRegisterModel", name := "entry", desc := "(III)I" } : Jvm.MethodName) prog_13_method_42_code (6 : Nat) (Option.some Jvm.ClassFile.FieldType.int)) ∈ uw := uw_of (List.mem_append_right _ (List.mem_append_right _ (List.mem_append_right _ (List.mem_append_right _ ((List.mem_of_getElem? (i := 73) rfl : _ ∈ tables_1_5)))))) (by rfl)
set_option maxRecDepth 4000 in
theorem u1034 : (Jvm.Cond.methodLink "WeddingRegisterLaw" (104 : Nat) ({ cls := "WeddingRegisterModel", name := "name", desc := "(III)I" } : Jvm.MethodName)) ∈ uw := uw_of (List.mem_append_right _ (List.mem_append_right _ (List.mem_append_right _ (List.mem_append_right _ ((List.mem_of_getElem? (i := 74) rfl : _ ∈ tables_1_5)))))) (by rfl)
set_option maxRecDepth 4000 in
theorem u1035 : (Jvm.Cond.instanceMethod ({ cls := "WeddingRegisterModel", name := "name", desc := "(III)I" } : Jvm.MethodName)) ∈ uw := uw_of (List.mem_append_right _ (List.mem_append_right _ (List.mem_append_right _ (List.mem_append_right _ ((List.mem_of_getElem? (i := 75) rfl : _ ∈ tables_1_5)))))) (by rfl)
set_option maxRecDepth 4000 in
theorem u1036 : (Jvm.Cond.selects "WeddingRegisterModel" ({ cls := "WeddingRegisterModel", name := "name", desc := "(III)I" } : Jvm.MethodName) ({ cls := "WeddingRegisterModel", name := "name", desc := "(III)I" } : Jvm.MethodName)) ∈ uw := uw_of (List.mem_append_right _ (List.mem_append_right _ (List.mem_append_right _ (List.mem_append_right _ ((List.mem_of_getElem? (i := 76) rfl : _ ∈ tables_1_5)))))) (by rfl)
set_option maxRecDepth 4000 in
theorem u1037 : (Jvm.Cond.code ({ cls := "WeddingRegisterModel", name := "name", desc := "(III)I" } : Jvm.MethodName) prog_13_method_44_code (4 : Nat) (Option.some Jvm.ClassFile.FieldType.int)) ∈ uw := uw_of (List.mem_append_right _ (List.mem_append_right _ (List.mem_append_right _ (List.mem_append_right _ ((List.mem_of_getElem? (i := 77) rfl : _ ∈ tables_1_5)))))) (by rfl)
set_option maxRecDepth 4000 in
theorem u1038 : (Jvm.Cond.methodLink "WeddingRegisterModel" (203 : Nat) ({ cls := "WeddingRegisterModel", name := "nameOf", desc := "(III)I" } : Jvm.MethodName)) ∈ uw := uw_of (List.mem_append_right _ (List.mem_append_right _ (List.mem_append_right _ (List.mem_append_right _ ((List.mem_of_getElem? (i := 78) rfl : _ ∈ tables_1_5)))))) (by rfl)
set_option maxRecDepth 4000 in
theorem u1040 : (Jvm.Cond.instanceMethod ({ cls := "WeddingRegisterModel", name := "nameOf", desc := "(III)I" } : Jvm.MethodName)) ∈ uw := uw_of (List.mem_append_right _ (List.mem_append_right _ (List.mem_append_right _ (List.mem_append_right _ ((List.mem_of_getElem? (i := 80) rfl : _ ∈ tables_1_5)))))) (by rfl)
set_option maxRecDepth 4000 in
theorem u1041 : (Jvm.Cond.code ({ cls := "WeddingRegisterModel", name := "nameOf", desc := "(III)I" } : Jvm.MethodName) prog_13_method_43_code (6 : Nat) (Option.some Jvm.ClassFile.FieldType.int)) ∈ uw := uw_of (List.mem_append_right _ (List.mem_append_right _ (List.mem_append_right _ (List.mem_append_right _ ((List.mem_of_getElem? (i := 81) rfl : _ ∈ tables_1_5)))))) (by rfl)
set_option maxRecDepth 4000 in
theorem u1042 : (Jvm.Cond.methodLink "WeddingRegisterLaw" (108 : Nat) ({ cls := "WeddingRegisterModel", name := "quarrel", desc := "(I)Z" } : Jvm.MethodName)) ∈ uw := uw_of (List.mem_append_right _ (List.mem_append_right _ (List.mem_append_right _ (List.mem_append_right _ ((List.mem_of_getElem? (i := 82) rfl : _ ∈ tables_1_5)))))) (by rfl)
set_option maxRecDepth 4000 in
theorem u1043 : (Jvm.Cond.instanceMethod ({ cls := "WeddingRegisterModel", name := "quarrel", desc := "(I)Z" } : Jvm.MethodName)) ∈ uw := uw_of (List.mem_append_right _ (List.mem_append_right _ (List.mem_append_right _ (List.mem_append_right _ ((List.mem_of_getElem? (i := 83) rfl : _ ∈ tables_1_5)))))) (by rfl)
set_option maxRecDepth 4000 in
theorem u1044 : (Jvm.Cond.selects "WeddingRegisterModel" ({ cls := "WeddingRegisterModel", name := "quarrel", desc := "(I)Z" } : Jvm.MethodName) ({ cls := "WeddingRegisterModel", name := "quarrel", desc := "(I)Z" } : Jvm.MethodName)) ∈ uw := uw_of (List.mem_append_right _ (List.mem_append_right _ (List.mem_append_right _ (List.mem_append_right _ ((List.mem_of_getElem? (i := 84) rfl : _ ∈ tables_1_5)))))) (by rfl)
set_option maxRecDepth 4000 in
theorem u1045 : (Jvm.Cond.code ({ cls := "WeddingRegisterModel", name := "quarrel", desc := "(I)Z" } : Jvm.MethodName) prog_13_method_45_code (2 : Nat) (Option.some Jvm.ClassFile.FieldType.boolean)) ∈ uw := uw_of (List.mem_append_right _ (List.mem_append_right _ (List.mem_append_right _ (List.mem_append_right _ ((List.mem_of_getElem? (i := 85) rfl : _ ∈ tables_1_5)))))) (by rfl)
set_option maxRecDepth 4000 in
theorem u1046 : (Jvm.Cond.methodLink "WeddingRegisterLaw" (112 : Nat) ({ cls := "WeddingRegisterModel", name := "told", desc := "(II)I" } : Jvm.MethodName)) ∈ uw := uw_of (List.mem_append_right _ (List.mem_append_right _ (List.mem_append_right _ (List.mem_append_right _ ((List.mem_of_getElem? (i := 86) rfl : _ ∈ tables_1_5)))))) (by rfl)
set_option maxRecDepth 4000 in
theorem u1047 : (Jvm.Cond.instanceMethod ({ cls := "WeddingRegisterModel", name := "told", desc := "(II)I" } : Jvm.MethodName)) ∈ uw := uw_of (List.mem_append_right _ (List.mem_append_right _ (List.mem_append_right _ (List.mem_append_right _ ((List.mem_of_getElem? (i := 87) rfl : _ ∈ tables_1_5)))))) (by rfl)
set_option maxRecDepth 4000 in
theorem u1048 : (Jvm.Cond.selects "WeddingRegisterModel" ({ cls := "WeddingRegisterModel", name := "told", desc := "(II)I" } : Jvm.MethodName) ({ cls := "WeddingRegisterModel", name := "told", desc := "(II)I" } : Jvm.MethodName)) ∈ uw := uw_of (List.mem_append_right _ (List.mem_append_right _ (List.mem_append_right _ (List.mem_append_right _ ((List.mem_of_getElem? (i := 88) rfl : _ ∈ tables_1_5)))))) (by rfl)
set_option maxRecDepth 4000 in
theorem u1049 : (Jvm.Cond.code ({ cls := "WeddingRegisterModel", name := "told", desc := "(II)I" } : Jvm.MethodName) prog_13_method_46_code (3 : Nat) (Option.some Jvm.ClassFile.FieldType.int)) ∈ uw := uw_of (List.mem_append_right _ (List.mem_append_right _ (List.mem_append_right _ (List.mem_append_right _ ((List.mem_of_getElem? (i := 89) rfl : _ ∈ tables_1_5)))))) (by rfl)
set_option maxRecDepth 4000 in
theorem u1050 : (Jvm.Cond.methodLink "WeddingRegisterLaw" (116 : Nat) ({ cls := "WeddingRegisterModel", name := "married", desc := "(I)I" } : Jvm.MethodName)) ∈ uw := uw_of (List.mem_append_right _ (List.mem_append_right _ (List.mem_append_right _ (List.mem_append_right _ ((List.mem_of_getElem? (i := 90) rfl : _ ∈ tables_1_5)))))) (by rfl)
set_option maxRecDepth 4000 in
theorem u1051 : (Jvm.Cond.instanceMethod ({ cls := "WeddingRegisterModel", name := "married", desc := "(I)I" } : Jvm.MethodName)) ∈ uw := uw_of (List.mem_append_right _ (List.mem_append_right _ (List.mem_append_right _ (List.mem_append_right _ ((List.mem_of_getElem? (i := 91) rfl : _ ∈ tables_1_5)))))) (by rfl)
set_option maxRecDepth 4000 in
theorem u1052 : (Jvm.Cond.selects "WeddingRegisterModel" ({ cls := "WeddingRegisterModel", name := "married", desc := "(I)I" } : Jvm.MethodName) ({ cls := "WeddingRegisterModel", name := "married", desc := "(I)I" } : Jvm.MethodName)) ∈ uw := uw_of (List.mem_append_right _ (List.mem_append_right _ (List.mem_append_right _ (List.mem_append_right _ ((List.mem_of_getElem? (i := 92) rfl : _ ∈ tables_1_5)))))) (by rfl)
set_option maxRecDepth 4000 in
theorem u1053 : (Jvm.Cond.code ({ cls := "WeddingRegisterModel", name := "married", desc := "(I)I" } : Jvm.MethodName) prog_13_method_47_code (2 : Nat) (Option.some Jvm.ClassFile.FieldType.int)) ∈ uw := uw_of (List.mem_append_right _ (List.mem_append_right _ (List.mem_append_right _ (List.mem_append_right _ ((List.mem_of_getElem? (i := 93) rfl : _ ∈ tables_1_5)))))) (by rfl)
set_option maxRecDepth 4000 in
theorem u1054 : (Jvm.Cond.methodLink "WeddingRegisterLaw" (120 : Nat) ({ cls := "WeddingRegisterModel", name := "count", desc := "(I)I" } : Jvm.MethodName)) ∈ uw := uw_of (List.mem_append_right _ (List.mem_append_right _ (List.mem_append_right _ (List.mem_append_right _ ((List.mem_of_getElem? (i := 94) rfl : _ ∈ tables_1_5)))))) (by rfl)
set_option maxRecDepth 4000 in
theorem u1055 : (Jvm.Cond.instanceMethod ({ cls := "WeddingRegisterModel", name := "count", desc := "(I)I" } : Jvm.MethodName)) ∈ uw := uw_of (List.mem_append_right _ (List.mem_append_right _ (List.mem_append_right _ (List.mem_append_right _ ((List.mem_of_getElem? (i := 95) rfl : _ ∈ tables_1_5)))))) (by rfl)
set_option maxRecDepth 4000 in
theorem u1056 : (Jvm.Cond.selects "WeddingRegisterModel" ({ cls := "WeddingRegisterModel", name := "count", desc := "(I)I" } : Jvm.MethodName) ({ cls := "WeddingRegisterModel", name := "count", desc := "(I)I" } : Jvm.MethodName)) ∈ uw := uw_of (List.mem_append_right _ (List.mem_append_right _ (List.mem_append_right _ (List.mem_append_right _ ((List.mem_of_getElem? (i := 96) rfl : _ ∈ tables_1_5)))))) (by rfl)
set_option maxRecDepth 4000 in
theorem u1057 : (Jvm.Cond.code ({ cls := "WeddingRegisterModel", name := "count", desc := "(I)I" } : Jvm.MethodName) prog_13_method_48_code (4 : Nat) (Option.some Jvm.ClassFile.FieldType.int)) ∈ uw := uw_of (List.mem_append_right _ (List.mem_append_right _ (List.mem_append_right _ (List.mem_append_right _ ((List.mem_of_getElem? (i := 97) rfl : _ ∈ tables_1_5)))))) (by rfl)
set_option maxRecDepth 4000 in
theorem u1058 : (Jvm.Cond.castable "WeddingRegister" "java/lang/Object") ∈ lw_tbl := List.mem_append_right _ (List.mem_append_right _ (List.mem_append_right _ (List.mem_append_right _ (List.mem_append_right _ ((List.mem_of_getElem? (i := 98) rfl : _ ∈ tables_1_5))))))
set_option maxRecDepth 4000 in
theorem u1059 : (Jvm.Cond.castable "WeddingRegister$Calendar" "java/lang/Object") ∈ lw_tbl := List.mem_append_right _ (List.mem_append_right _ (List.mem_append_right _ (List.mem_append_right _ (List.mem_append_right _ ((List.mem_of_getElem? (i := 99) rfl : _ ∈ tables_1_5))))))
set_option maxRecDepth 4000 in
theorem u1060 : (Jvm.Cond.castable "WeddingRegister$LawBook" "java/lang/Object") ∈ lw_tbl := List.mem_append_right _ (List.mem_append_right _ (List.mem_append_right _ (List.mem_append_right _ (List.mem_append_right _ ((List.mem_of_getElem? (i := 100) rfl : _ ∈ tables_1_5))))))
set_option maxRecDepth 4000 in
theorem u1061 : (Jvm.Cond.castable "java/util/ArrayList" "java/lang/Object") ∈ lw_tbl := List.mem_append_right _ (List.mem_append_right _ (List.mem_append_right _ (List.mem_append_right _ (List.mem_append_right _ ((List.mem_of_getElem? (i := 101) rfl : _ ∈ tables_1_5))))))
set_option maxRecDepth 4000 in
theorem u1062 : (Jvm.Cond.castable "WeddingRegister$Law" "java/lang/Object") ∈ lw_tbl := List.mem_append_right _ (List.mem_append_right _ (List.mem_append_right _ (List.mem_append_right _ (List.mem_append_right _ ((List.mem_of_getElem? (i := 102) rfl : _ ∈ tables_1_5))))))
set_option maxRecDepth 4000 in
theorem u1063 : (Jvm.Cond.castable "WeddingRegister$DayPlan" "java/lang/Object") ∈ lw_tbl := List.mem_append_right _ (List.mem_append_right _ (List.mem_append_right _ (List.mem_append_right _ (List.mem_append_right _ ((List.mem_of_getElem? (i := 103) rfl : _ ∈ tables_1_5))))))
set_option maxRecDepth 4000 in
theorem u1064 : (Jvm.Cond.castable "WeddingRegisterModel" "java/lang/Object") ∈ lw_tbl := List.mem_append_right _ (List.mem_append_right _ (List.mem_append_right _ (List.mem_append_right _ (List.mem_append_right _ ((List.mem_of_getElem? (i := 104) rfl : _ ∈ tables_1_5))))))
set_option maxRecDepth 4000 in
theorem u1065 : (Jvm.Cond.castable "WeddingRegister$Person" "java/lang/Object") ∈ lw_tbl := List.mem_append_right _ (List.mem_append_right _ (List.mem_append_right _ (List.mem_append_right _ (List.mem_append_right _ ((List.mem_of_getElem? (i := 105) rfl : _ ∈ tables_1_5))))))
set_option maxRecDepth 4000 in
theorem u1066 : (Jvm.Cond.castable "WeddingRegister$Paper" "java/lang/Object") ∈ lw_tbl := List.mem_append_right _ (List.mem_append_right _ (List.mem_append_right _ (List.mem_append_right _ (List.mem_append_right _ ((List.mem_of_getElem? (i := 106) rfl : _ ∈ tables_1_5))))))
set_option maxRecDepth 4000 in
theorem u1067 : (Jvm.Cond.castable "WeddingRegister$Notice" "java/lang/Object") ∈ lw_tbl := List.mem_append_right _ (List.mem_append_right _ (List.mem_append_right _ (List.mem_append_right _ (List.mem_append_right _ ((List.mem_of_getElem? (i := 107) rfl : _ ∈ tables_1_5))))))
set_option maxRecDepth 4000 in
theorem u1068 : (Jvm.Cond.castable "WeddingRegister$Objection" "java/lang/Object") ∈ lw_tbl := List.mem_append_right _ (List.mem_append_right _ (List.mem_append_right _ (List.mem_append_right _ (List.mem_append_right _ ((List.mem_of_getElem? (i := 108) rfl : _ ∈ tables_1_5))))))
set_option maxRecDepth 4000 in
theorem u1069 : (Jvm.Cond.castable "WeddingRegister$Entry" "java/lang/Object") ∈ lw_tbl := List.mem_append_right _ (List.mem_append_right _ (List.mem_append_right _ (List.mem_append_right _ (List.mem_append_right _ ((List.mem_of_getElem? (i := 109) rfl : _ ∈ tables_1_5))))))
set_option maxRecDepth 4000 in
theorem u1070 : (Jvm.Cond.castable "WeddingRegister$Correction" "java/lang/Object") ∈ lw_tbl := List.mem_append_right _ (List.mem_append_right _ (List.mem_append_right _ (List.mem_append_right _ (List.mem_append_right _ ((List.mem_of_getElem? (i := 110) rfl : _ ∈ tables_1_5))))))
set_option maxRecDepth 4000 in
theorem u1071 : (Jvm.Cond.sameMethod "[Ljava/lang/Object;" "java/lang/Object" "getClass" "()Ljava/lang/Class;") ∈ uw := uw_of (List.mem_append_right _ (List.mem_append_right _ (List.mem_append_right _ (List.mem_append_right _ ((List.mem_of_getElem? (i := 111) rfl : _ ∈ tables_1_5)))))) (by rfl)
set_option maxRecDepth 4000 in
theorem u1072 : (Jvm.Cond.selects "[Ljava/lang/Object;" ({ cls := "java/lang/Object", name := "getClass", desc := "()Ljava/lang/Class;" } : Jvm.MethodName) ({ cls := "java/lang/Object", name := "getClass", desc := "()Ljava/lang/Class;" } : Jvm.MethodName)) ∈ uw := uw_of (List.mem_append_right _ (List.mem_append_right _ (List.mem_append_right _ (List.mem_append_right _ ((List.mem_of_getElem? (i := 112) rfl : _ ∈ tables_1_5)))))) (by rfl)
set_option maxRecDepth 4000 in
theorem u1073 : (Jvm.Cond.declares ({ cls := "java/lang/Object", name := "getClass", desc := "()Ljava/lang/Class;" } : Jvm.MethodName)) ∈ lw_tbl := List.mem_append_right _ (List.mem_append_right _ (List.mem_append_right _ (List.mem_append_right _ (List.mem_append_right _ ((List.mem_of_getElem? (i := 113) rfl : _ ∈ tables_1_5))))))
set_option maxRecDepth 4000 in
theorem u1074 : (Jvm.Cond.castable "[I" "java/lang/Object") ∈ lw_tbl := List.mem_append_right _ (List.mem_append_right _ (List.mem_append_right _ (List.mem_append_right _ (List.mem_append_right _ ((List.mem_of_getElem? (i := 114) rfl : _ ∈ tables_1_5))))))
set_option maxRecDepth 4000 in
theorem u1075 : (Jvm.Cond.castable "[J" "java/lang/Object") ∈ lw_tbl := List.mem_append_right _ (List.mem_append_right _ (List.mem_append_right _ (List.mem_append_right _ (List.mem_append_right _ ((List.mem_of_getElem? (i := 115) rfl : _ ∈ tables_1_5))))))
set_option maxRecDepth 4000 in
theorem u1076 : (Jvm.Cond.castable "[Ljava/lang/Object;" "java/lang/Object") ∈ lw_tbl := List.mem_append_right _ (List.mem_append_right _ (List.mem_append_right _ (List.mem_append_right _ (List.mem_append_right _ ((List.mem_of_getElem? (i := 116) rfl : _ ∈ tables_1_5))))))
set_option maxRecDepth 4000 in
theorem u1077 : (Jvm.Cond.castable "[[I" "java/lang/Object") ∈ lw_tbl := List.mem_append_right _ (List.mem_append_right _ (List.mem_append_right _ (List.mem_append_right _ (List.mem_append_right _ ((List.mem_of_getElem? (i := 117) rfl : _ ∈ tables_1_5))))))
set_option maxRecDepth 4000 in
theorem u1078 : (Jvm.Cond.castable "[Z" "java/lang/Object") ∈ lw_tbl := List.mem_append_right _ (List.mem_append_right _ (List.mem_append_right _ (List.mem_append_right _ (List.mem_append_right _ ((List.mem_of_getElem? (i := 118) rfl : _ ∈ tables_1_5))))))
set_option maxRecDepth 4000 in
theorem us0 : Cond.selects "java/util/ArrayList" ⟨"java/util/ArrayList", "add", "(Ljava/lang/Object;[Ljava/lang/Object;I)V"⟩ ⟨"java/util/ArrayList", "add", "(Ljava/lang/Object;[Ljava/lang/Object;I)V"⟩ ∈ uw := uw_sel (q := (⟨"java/util/ArrayList", "add", "(Ljava/lang/Object;[Ljava/lang/Object;I)V"⟩, 3)) (List.mem_of_getElem? (i := 0) rfl) (by rfl)
set_option maxRecDepth 4000 in
theorem us1 : Cond.selects "java/util/ArrayList" ⟨"java/util/ArrayList", "grow", "()[Ljava/lang/Object;"⟩ ⟨"java/util/ArrayList", "grow", "()[Ljava/lang/Object;"⟩ ∈ uw := uw_sel (q := (⟨"java/util/ArrayList", "grow", "()[Ljava/lang/Object;"⟩, 3)) (List.mem_of_getElem? (i := 1) rfl) (by rfl)
set_option maxRecDepth 4000 in
theorem us2 : Cond.selects "java/util/ArrayList" ⟨"java/util/ArrayList", "grow", "(I)[Ljava/lang/Object;"⟩ ⟨"java/util/ArrayList", "grow", "(I)[Ljava/lang/Object;"⟩ ∈ uw := uw_sel (q := (⟨"java/util/ArrayList", "grow", "(I)[Ljava/lang/Object;"⟩, 3)) (List.mem_of_getElem? (i := 2) rfl) (by rfl)
set_option maxRecDepth 4000 in
theorem us3 : Cond.selects "WeddingRegister" ⟨"WeddingRegister", "canBeParents", "(II)Z"⟩ ⟨"WeddingRegister", "canBeParents", "(II)Z"⟩ ∈ uw := uw_sel (q := (⟨"WeddingRegister", "canBeParents", "(II)Z"⟩, 12)) (List.mem_of_getElem? (i := 3) rfl) (by rfl)
set_option maxRecDepth 4000 in
theorem us4 : Cond.selects "WeddingRegister" ⟨"WeddingRegister", "personAt", "(I)LWeddingRegister$Person;"⟩ ⟨"WeddingRegister", "personAt", "(I)LWeddingRegister$Person;"⟩ ∈ uw := uw_sel (q := (⟨"WeddingRegister", "personAt", "(I)LWeddingRegister$Person;"⟩, 12)) (List.mem_of_getElem? (i := 4) rfl) (by rfl)
set_option maxRecDepth 4000 in
theorem us5 : Cond.selects "WeddingRegister" ⟨"WeddingRegister", "barToCouple", "(LWeddingRegister$Person;LWeddingRegister$Person;I)I"⟩ ⟨"WeddingRegister", "barToCouple", "(LWeddingRegister$Person;LWeddingRegister$Person;I)I"⟩ ∈ uw := uw_sel (q := (⟨"WeddingRegister", "barToCouple", "(LWeddingRegister$Person;LWeddingRegister$Person;I)I"⟩, 12)) (List.mem_of_getElem? (i := 5) rfl) (by rfl)
set_option maxRecDepth 4000 in
theorem us6 : Cond.selects "WeddingRegister" ⟨"WeddingRegister", "hasOpenNotice", "(LWeddingRegister$Person;LWeddingRegister$Person;)Z"⟩ ⟨"WeddingRegister", "hasOpenNotice", "(LWeddingRegister$Person;LWeddingRegister$Person;)Z"⟩ ∈ uw := uw_sel (q := (⟨"WeddingRegister", "hasOpenNotice", "(LWeddingRegister$Person;LWeddingRegister$Person;)Z"⟩, 12)) (List.mem_of_getElem? (i := 6) rfl) (by rfl)
set_option maxRecDepth 4000 in
theorem us7 : Cond.selects "WeddingRegister" ⟨"WeddingRegister", "noticeAt", "(I)LWeddingRegister$Notice;"⟩ ⟨"WeddingRegister", "noticeAt", "(I)LWeddingRegister$Notice;"⟩ ∈ uw := uw_sel (q := (⟨"WeddingRegister", "noticeAt", "(I)LWeddingRegister$Notice;"⟩, 12)) (List.mem_of_getElem? (i := 7) rfl) (by rfl)
set_option maxRecDepth 4000 in
theorem us8 : Cond.selects "WeddingRegister$Calendar" ⟨"WeddingRegister$Calendar", "feastsAheadOf", "(I)I"⟩ ⟨"WeddingRegister$Calendar", "feastsAheadOf", "(I)I"⟩ ∈ uw := uw_sel (q := (⟨"WeddingRegister$Calendar", "feastsAheadOf", "(I)I"⟩, 1)) (List.mem_of_getElem? (i := 8) rfl) (by rfl)
set_option maxRecDepth 4000 in
theorem us9 : Cond.selects "WeddingRegister" ⟨"WeddingRegister", "firstRipeDay", "(LWeddingRegister$Notice;)I"⟩ ⟨"WeddingRegister", "firstRipeDay", "(LWeddingRegister$Notice;)I"⟩ ∈ uw := uw_sel (q := (⟨"WeddingRegister", "firstRipeDay", "(LWeddingRegister$Notice;)I"⟩, 12)) (List.mem_of_getElem? (i := 9) rfl) (by rfl)
set_option maxRecDepth 4000 in
theorem us10 : Cond.selects "WeddingRegister" ⟨"WeddingRegister", "hangingAsked", "(LWeddingRegister$Notice;I)I"⟩ ⟨"WeddingRegister", "hangingAsked", "(LWeddingRegister$Notice;I)I"⟩ ∈ uw := uw_sel (q := (⟨"WeddingRegister", "hangingAsked", "(LWeddingRegister$Notice;I)I"⟩, 12)) (List.mem_of_getElem? (i := 10) rfl) (by rfl)
set_option maxRecDepth 4000 in
theorem us11 : Cond.selects "WeddingRegister" ⟨"WeddingRegister", "isDayToCome", "(I)Z"⟩ ⟨"WeddingRegister", "isDayToCome", "(I)Z"⟩ ∈ uw := uw_sel (q := (⟨"WeddingRegister", "isDayToCome", "(I)Z"⟩, 12)) (List.mem_of_getElem? (i := 11) rfl) (by rfl)
set_option maxRecDepth 4000 in
theorem us12 : Cond.selects "WeddingRegister" ⟨"WeddingRegister", "isSlot", "(I)Z"⟩ ⟨"WeddingRegister", "isSlot", "(I)Z"⟩ ∈ uw := uw_sel (q := (⟨"WeddingRegister", "isSlot", "(I)Z"⟩, 12)) (List.mem_of_getElem? (i := 12) rfl) (by rfl)
set_option maxRecDepth 4000 in
theorem us13 : Cond.selects "WeddingRegister" ⟨"WeddingRegister", "barToDay", "(LWeddingRegister$Notice;I)I"⟩ ⟨"WeddingRegister", "barToDay", "(LWeddingRegister$Notice;I)I"⟩ ∈ uw := uw_sel (q := (⟨"WeddingRegister", "barToDay", "(LWeddingRegister$Notice;I)I"⟩, 12)) (List.mem_of_getElem? (i := 13) rfl) (by rfl)
set_option maxRecDepth 4000 in
theorem us14 : Cond.selects "WeddingRegister" ⟨"WeddingRegister", "isRipeOn", "(LWeddingRegister$Notice;I)Z"⟩ ⟨"WeddingRegister", "isRipeOn", "(LWeddingRegister$Notice;I)Z"⟩ ∈ uw := uw_sel (q := (⟨"WeddingRegister", "isRipeOn", "(LWeddingRegister$Notice;I)Z"⟩, 12)) (List.mem_of_getElem? (i := 14) rfl) (by rfl)
set_option maxRecDepth 4000 in
theorem us15 : Cond.selects "WeddingRegister" ⟨"WeddingRegister", "fillPlan", "(ILWeddingRegister$Notice;)V"⟩ ⟨"WeddingRegister", "fillPlan", "(ILWeddingRegister$Notice;)V"⟩ ∈ uw := uw_sel (q := (⟨"WeddingRegister", "fillPlan", "(ILWeddingRegister$Notice;)V"⟩, 12)) (List.mem_of_getElem? (i := 15) rfl) (by rfl)
set_option maxRecDepth 4000 in
theorem us16 : Cond.selects "WeddingRegister$DayPlan" ⟨"WeddingRegister$DayPlan", "placeOf", "(II)I"⟩ ⟨"WeddingRegister$DayPlan", "placeOf", "(II)I"⟩ ∈ uw := uw_sel (q := (⟨"WeddingRegister$DayPlan", "placeOf", "(II)I"⟩, 2)) (List.mem_of_getElem? (i := 16) rfl) (by rfl)
set_option maxRecDepth 4000 in
theorem us17 : Cond.selects "WeddingRegister" ⟨"WeddingRegister", "barToSlot", "(LWeddingRegister$Notice;I)I"⟩ ⟨"WeddingRegister", "barToSlot", "(LWeddingRegister$Notice;I)I"⟩ ∈ uw := uw_sel (q := (⟨"WeddingRegister", "barToSlot", "(LWeddingRegister$Notice;I)I"⟩, 12)) (List.mem_of_getElem? (i := 17) rfl) (by rfl)
set_option maxRecDepth 4000 in
theorem us18 : Cond.selects "WeddingRegister$DayPlan" ⟨"WeddingRegister$DayPlan", "isTaken", "(II)Z"⟩ ⟨"WeddingRegister$DayPlan", "isTaken", "(II)Z"⟩ ∈ uw := uw_sel (q := (⟨"WeddingRegister$DayPlan", "isTaken", "(II)Z"⟩, 2)) (List.mem_of_getElem? (i := 18) rfl) (by rfl)
set_option maxRecDepth 4000 in
theorem us19 : Cond.selects "WeddingRegister$DayPlan" ⟨"WeddingRegister$DayPlan", "hallAt", "(II)I"⟩ ⟨"WeddingRegister$DayPlan", "hallAt", "(II)I"⟩ ∈ uw := uw_sel (q := (⟨"WeddingRegister$DayPlan", "hallAt", "(II)I"⟩, 2)) (List.mem_of_getElem? (i := 19) rfl) (by rfl)
set_option maxRecDepth 4000 in
theorem us20 : Cond.selects "WeddingRegister" ⟨"WeddingRegister", "speaksWithBoth", "(ILWeddingRegister$Notice;)Z"⟩ ⟨"WeddingRegister", "speaksWithBoth", "(ILWeddingRegister$Notice;)Z"⟩ ∈ uw := uw_sel (q := (⟨"WeddingRegister", "speaksWithBoth", "(ILWeddingRegister$Notice;)Z"⟩, 12)) (List.mem_of_getElem? (i := 20) rfl) (by rfl)
set_option maxRecDepth 4000 in
theorem us21 : Cond.selects "WeddingRegister" ⟨"WeddingRegister", "bookByOrder", "(LWeddingRegister$Notice;I)Z"⟩ ⟨"WeddingRegister", "bookByOrder", "(LWeddingRegister$Notice;I)Z"⟩ ∈ uw := uw_sel (q := (⟨"WeddingRegister", "bookByOrder", "(LWeddingRegister$Notice;I)Z"⟩, 12)) (List.mem_of_getElem? (i := 21) rfl) (by rfl)
set_option maxRecDepth 4000 in
theorem us22 : Cond.selects "WeddingRegister" ⟨"WeddingRegister", "firstFreeSlot", "(LWeddingRegister$Notice;)I"⟩ ⟨"WeddingRegister", "firstFreeSlot", "(LWeddingRegister$Notice;)I"⟩ ∈ uw := uw_sel (q := (⟨"WeddingRegister", "firstFreeSlot", "(LWeddingRegister$Notice;)I"⟩, 12)) (List.mem_of_getElem? (i := 22) rfl) (by rfl)
set_option maxRecDepth 4000 in
theorem us23 : Cond.selects "WeddingRegister" ⟨"WeddingRegister", "entryAt", "(I)LWeddingRegister$Entry;"⟩ ⟨"WeddingRegister", "entryAt", "(I)LWeddingRegister$Entry;"⟩ ∈ uw := uw_sel (q := (⟨"WeddingRegister", "entryAt", "(I)LWeddingRegister$Entry;"⟩, 12)) (List.mem_of_getElem? (i := 23) rfl) (by rfl)
set_option maxRecDepth 4000 in
theorem us24 : Cond.selects "WeddingRegister" ⟨"WeddingRegister", "nameAfter", "(LWeddingRegister$Entry;II)I"⟩ ⟨"WeddingRegister", "nameAfter", "(LWeddingRegister$Entry;II)I"⟩ ∈ uw := uw_sel (q := (⟨"WeddingRegister", "nameAfter", "(LWeddingRegister$Entry;II)I"⟩, 12)) (List.mem_of_getElem? (i := 24) rfl) (by rfl)
set_option maxRecDepth 4000 in
theorem us25 : Cond.selects "WeddingRegister" ⟨"WeddingRegister", "openBookings", "()I"⟩ ⟨"WeddingRegister", "openBookings", "()I"⟩ ∈ uw := uw_sel (q := (⟨"WeddingRegister", "openBookings", "()I"⟩, 12)) (List.mem_of_getElem? (i := 25) rfl) (by rfl)
set_option maxRecDepth 4000 in
theorem us26 : Cond.selects "WeddingRegisterModel" ⟨"WeddingRegisterModel", "isPerson", "(I)Z"⟩ ⟨"WeddingRegisterModel", "isPerson", "(I)Z"⟩ ∈ uw := uw_sel (q := (⟨"WeddingRegisterModel", "isPerson", "(I)Z"⟩, 36)) (List.mem_of_getElem? (i := 26) rfl) (by rfl)
set_option maxRecDepth 4000 in
theorem us27 : Cond.selects "WeddingRegisterModel" ⟨"WeddingRegisterModel", "isFree", "(I)Z"⟩ ⟨"WeddingRegisterModel", "isFree", "(I)Z"⟩ ∈ uw := uw_sel (q := (⟨"WeddingRegisterModel", "isFree", "(I)Z"⟩, 36)) (List.mem_of_getElem? (i := 27) rfl) (by rfl)
set_option maxRecDepth 4000 in
theorem us28 : Cond.selects "WeddingRegisterModel" ⟨"WeddingRegisterModel", "kinOf", "(II)I"⟩ ⟨"WeddingRegisterModel", "kinOf", "(II)I"⟩ ∈ uw := uw_sel (q := (⟨"WeddingRegisterModel", "kinOf", "(II)I"⟩, 36)) (List.mem_of_getElem? (i := 28) rfl) (by rfl)
set_option maxRecDepth 4000 in
theorem us29 : Cond.selects "WeddingRegisterModel" ⟨"WeddingRegisterModel", "isParent", "(II)Z"⟩ ⟨"WeddingRegisterModel", "isParent", "(II)Z"⟩ ∈ uw := uw_sel (q := (⟨"WeddingRegisterModel", "isParent", "(II)Z"⟩, 36)) (List.mem_of_getElem? (i := 29) rfl) (by rfl)
set_option maxRecDepth 4000 in
theorem us30 : Cond.selects "WeddingRegisterModel" ⟨"WeddingRegisterModel", "share", "(II)Z"⟩ ⟨"WeddingRegisterModel", "share", "(II)Z"⟩ ∈ uw := uw_sel (q := (⟨"WeddingRegisterModel", "share", "(II)Z"⟩, 36)) (List.mem_of_getElem? (i := 30) rfl) (by rfl)
set_option maxRecDepth 4000 in
theorem us31 : Cond.selects "WeddingRegisterModel" ⟨"WeddingRegisterModel", "parent", "(II)I"⟩ ⟨"WeddingRegisterModel", "parent", "(II)I"⟩ ∈ uw := uw_sel (q := (⟨"WeddingRegisterModel", "parent", "(II)I"⟩, 36)) (List.mem_of_getElem? (i := 31) rfl) (by rfl)
set_option maxRecDepth 4000 in
theorem us32 : Cond.selects "WeddingRegisterModel" ⟨"WeddingRegisterModel", "stands", "(III)I"⟩ ⟨"WeddingRegisterModel", "stands", "(III)I"⟩ ∈ uw := uw_sel (q := (⟨"WeddingRegisterModel", "stands", "(III)I"⟩, 36)) (List.mem_of_getElem? (i := 32) rfl) (by rfl)
set_option maxRecDepth 4000 in
theorem us33 : Cond.selects "WeddingRegisterModel" ⟨"WeddingRegisterModel", "isYoung", "(II)Z"⟩ ⟨"WeddingRegisterModel", "isYoung", "(II)Z"⟩ ∈ uw := uw_sel (q := (⟨"WeddingRegisterModel", "isYoung", "(II)Z"⟩, 36)) (List.mem_of_getElem? (i := 33) rfl) (by rfl)
set_option maxRecDepth 4000 in
theorem us34 : Cond.selects "WeddingRegisterModel" ⟨"WeddingRegisterModel", "asks", "(III)I"⟩ ⟨"WeddingRegisterModel", "asks", "(III)I"⟩ ∈ uw := uw_sel (q := (⟨"WeddingRegisterModel", "asks", "(III)I"⟩, 36)) (List.mem_of_getElem? (i := 34) rfl) (by rfl)
set_option maxRecDepth 4000 in
theorem us35 : Cond.selects "WeddingRegisterModel" ⟨"WeddingRegisterModel", "inForce", "(II)[I"⟩ ⟨"WeddingRegisterModel", "inForce", "(II)[I"⟩ ∈ uw := uw_sel (q := (⟨"WeddingRegisterModel", "inForce", "(II)[I"⟩, 36)) (List.mem_of_getElem? (i := 35) rfl) (by rfl)
set_option maxRecDepth 4000 in
theorem us36 : Cond.selects "WeddingRegisterModel" ⟨"WeddingRegisterModel", "lacks", "(II)Z"⟩ ⟨"WeddingRegisterModel", "lacks", "(II)Z"⟩ ∈ uw := uw_sel (q := (⟨"WeddingRegisterModel", "lacks", "(II)Z"⟩, 36)) (List.mem_of_getElem? (i := 36) rfl) (by rfl)
set_option maxRecDepth 4000 in
theorem us37 : Cond.selects "WeddingRegisterModel" ⟨"WeddingRegisterModel", "hasPaper", "(III)Z"⟩ ⟨"WeddingRegisterModel", "hasPaper", "(III)Z"⟩ ∈ uw := uw_sel (q := (⟨"WeddingRegisterModel", "hasPaper", "(III)Z"⟩, 36)) (List.mem_of_getElem? (i := 37) rfl) (by rfl)
set_option maxRecDepth 4000 in
theorem us38 : Cond.selects "WeddingRegisterModel" ⟨"WeddingRegisterModel", "isNotice", "(I)Z"⟩ ⟨"WeddingRegisterModel", "isNotice", "(I)Z"⟩ ∈ uw := uw_sel (q := (⟨"WeddingRegisterModel", "isNotice", "(I)Z"⟩, 36)) (List.mem_of_getElem? (i := 38) rfl) (by rfl)
set_option maxRecDepth 4000 in
theorem us39 : Cond.selects "WeddingRegisterModel" ⟨"WeddingRegisterModel", "hungOf", "(II)I"⟩ ⟨"WeddingRegisterModel", "hungOf", "(II)I"⟩ ∈ uw := uw_sel (q := (⟨"WeddingRegisterModel", "hungOf", "(II)I"⟩, 36)) (List.mem_of_getElem? (i := 39) rfl) (by rfl)
set_option maxRecDepth 4000 in
theorem us40 : Cond.selects "WeddingRegisterModel" ⟨"WeddingRegisterModel", "ripeOf", "(I)I"⟩ ⟨"WeddingRegisterModel", "ripeOf", "(I)I"⟩ ∈ uw := uw_sel (q := (⟨"WeddingRegisterModel", "ripeOf", "(I)I"⟩, 36)) (List.mem_of_getElem? (i := 40) rfl) (by rfl)
set_option maxRecDepth 4000 in
theorem us41 : Cond.selects "WeddingRegisterModel" ⟨"WeddingRegisterModel", "wanted", "(II)I"⟩ ⟨"WeddingRegisterModel", "wanted", "(II)I"⟩ ∈ uw := uw_sel (q := (⟨"WeddingRegisterModel", "wanted", "(II)I"⟩, 36)) (List.mem_of_getElem? (i := 41) rfl) (by rfl)
set_option maxRecDepth 4000 in
theorem us42 : Cond.selects "WeddingRegisterModel" ⟨"WeddingRegisterModel", "bars", "(IIIII)I"⟩ ⟨"WeddingRegisterModel", "bars", "(IIIII)I"⟩ ∈ uw := uw_sel (q := (⟨"WeddingRegisterModel", "bars", "(IIIII)I"⟩, 36)) (List.mem_of_getElem? (i := 42) rfl) (by rfl)
set_option maxRecDepth 4000 in
theorem us43 : Cond.selects "WeddingRegisterModel" ⟨"WeddingRegisterModel", "isRipe", "(II)Z"⟩ ⟨"WeddingRegisterModel", "isRipe", "(II)Z"⟩ ∈ uw := uw_sel (q := (⟨"WeddingRegisterModel", "isRipe", "(II)Z"⟩, 36)) (List.mem_of_getElem? (i := 43) rfl) (by rfl)
set_option maxRecDepth 4000 in
theorem us44 : Cond.selects "WeddingRegisterModel" ⟨"WeddingRegisterModel", "objected", "(I)I"⟩ ⟨"WeddingRegisterModel", "objected", "(I)I"⟩ ∈ uw := uw_sel (q := (⟨"WeddingRegisterModel", "objected", "(I)I"⟩, 36)) (List.mem_of_getElem? (i := 44) rfl) (by rfl)
set_option maxRecDepth 4000 in
theorem us45 : Cond.selects "WeddingRegisterModel" ⟨"WeddingRegisterModel", "finds", "(II)Z"⟩ ⟨"WeddingRegisterModel", "finds", "(II)Z"⟩ ∈ uw := uw_sel (q := (⟨"WeddingRegisterModel", "finds", "(II)Z"⟩, 36)) (List.mem_of_getElem? (i := 45) rfl) (by rfl)
set_option maxRecDepth 4000 in
theorem us46 : Cond.selects "WeddingRegisterModel" ⟨"WeddingRegisterModel", "nameOf", "(III)I"⟩ ⟨"WeddingRegisterModel", "nameOf", "(III)I"⟩ ∈ uw := uw_sel (q := (⟨"WeddingRegisterModel", "nameOf", "(III)I"⟩, 36)) (List.mem_of_getElem? (i := 46) rfl) (by rfl)
