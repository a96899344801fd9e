/-! The words about the exceptions' classes, by their places: by program (wip/whole/gen/genthr.py). -/
def xR : String := "java/lang/RuntimeException"
def xE : String := "java/lang/Exception"
def xc13 : ByteArray := ⟨#[0x2a, 0x2b, 0xb7, 0x00, 0x0d, 0xb1]⟩
def xN : String := "java/util/NoSuchElementException"
def xA : String := "java/lang/IllegalArgumentException"
def xI : String := "java/lang/IllegalStateException"
def xU : String := "java/lang/UnsupportedOperationException"
def xo_ (own : String) (ic : Nat) (X : String) : List Cond := [.methodLink own ic (Bundle.initS X), .instantiable X 6, .castable X X, .selects X Bundle.tFill0 Bundle.tFill0, .selects X Bundle.tFill Bundle.tFill, .lays X Bundle.tN "cause" "Ljava/lang/Throwable;", .lays X Bundle.tN "stackTrace" Bundle.steD, .lays X Bundle.tN "suppressedExceptions" Bundle.listD, .lays X Bundle.tN "detailMessage" "Ljava/lang/String;", .isRef (.static Bundle.tN "UNASSIGNED_STACK" Bundle.steD), .isRef (.static Bundle.tN "SUPPRESSED_SENTINEL" Bundle.listD), .fieldLink Bundle.tN 198 Bundle.tN "backtrace" "Ljava/lang/Object;", .lays Bundle.tN Bundle.tN "backtrace" "Ljava/lang/Object;", .lays X Bundle.tN "backtrace" "Ljava/lang/Object;"]
def xa_ (args : Array Value) (s : State) (own : String) (ic : Nat) (X : String) (ix : Nat) (rx : ByteArray) : Prop := (∀ w ∈ Bundle.throwableAtoms, w.before args s = true) ∧ (∀ w ∈ Bundle.throwableSAtoms, w.before args s = true) ∧ (∀ w ∈ Bundle.passSAtoms X xR ix rx, w.before args s = true) ∧ (∀ w ∈ Bundle.chainSAtoms xR [xE], w.before args s = true) ∧ (∀ w ∈ xo_ own ic X, w.before args s = true)
theorem wx_0 : Cond.initialized Bundle.tN ∈ mt_T := mt_in1 16 (by decide +kernel) rfl
theorem wx_1 : Cond.superclass Bundle.tN "java/lang/Object" ∈ mt_T := mt_in3 171 (by decide +kernel) rfl
theorem wx_2 : Cond.instanceMethod Bundle.tFill ∈ mt_T := mt_in3 180 (by decide +kernel) rfl
theorem wx_3 : Cond.codeSync Bundle.tFill LibCode.Throwable.Fill.code 1 (some (.object Bundle.tN)) ∈ mt_T := mt_in3 185 (by decide +kernel) rfl
theorem wx_4 : Cond.instanceMethod Bundle.tFill0 ∈ mt_T := mt_in3 188 (by decide +kernel) rfl
theorem wx_5 : Cond.native Bundle.tFill0 ∈ mt_T := mt_in3 190 (by decide +kernel) rfl
theorem wx_6 : Cond.instanceMethod Bundle.tInit0 ∈ mt_T := mt_in3 172 (by decide +kernel) rfl
theorem wx_7 : Cond.code Bundle.tInit0 LibCode.Throwable.Init0.code 1 none ∈ mt_T := mt_in3 173 (by decide +kernel) rfl
theorem wx_8 : Cond.instanceMethod Bundle.oInit ∈ mt_T := mt_in1 29 (by decide +kernel) rfl
theorem wx_9 : Cond.code Bundle.oInit ⟨#[0xb1]⟩ 1 none ∈ mt_T := mt_in1 30 (by decide +kernel) rfl
theorem wx_10 : Cond.methodLink Bundle.tN 1 Bundle.oInit ∈ mt_T := mt_in3 174 (by decide +kernel) rfl
theorem wx_11 : Cond.methodLink Bundle.tN 27 Bundle.tFill ∈ mt_T := mt_in3 179 (by decide +kernel) rfl
theorem wx_12 : Cond.methodLink Bundle.tN 202 Bundle.tFill0 ∈ mt_T := mt_in3 186 (by decide +kernel) rfl
theorem wx_13 : Cond.fieldLink Bundle.tN 7 Bundle.tN "cause" "Ljava/lang/Throwable;" ∈ mt_T := mt_in3 206 (by decide +kernel) rfl
theorem wx_14 : Cond.lays Bundle.tN Bundle.tN "cause" "Ljava/lang/Throwable;" ∈ mt_T := mt_in3 161 (by decide +kernel) rfl
theorem wx_15 : Cond.fieldLink Bundle.tN 17 Bundle.tN "stackTrace" "[Ljava/lang/StackTraceElement;" ∈ mt_T := mt_in3 207 (by decide +kernel) rfl
theorem wx_16 : Cond.lays Bundle.tN Bundle.tN "stackTrace" "[Ljava/lang/StackTraceElement;" ∈ mt_T := mt_in3 163 (by decide +kernel) rfl
theorem wx_17 : Cond.fieldLink Bundle.tN 24 Bundle.tN "suppressedExceptions" "Ljava/util/List;" ∈ mt_T := mt_in3 208 (by decide +kernel) rfl
theorem wx_18 : Cond.lays Bundle.tN Bundle.tN "suppressedExceptions" "Ljava/util/List;" ∈ mt_T := mt_in3 165 (by decide +kernel) rfl
theorem wx_19 : Cond.fieldLink Bundle.tN 13 Bundle.tN "UNASSIGNED_STACK" "[Ljava/lang/StackTraceElement;" ∈ mt_T := mt_in3 175 (by decide +kernel) rfl
theorem wx_20 : Cond.fieldLink Bundle.tN 20 Bundle.tN "SUPPRESSED_SENTINEL" "Ljava/util/List;" ∈ mt_T := mt_in3 177 (by decide +kernel) rfl
theorem wx_21 : Cond.lays Bundle.tN Bundle.tN "detailMessage" "Ljava/lang/String;" ∈ mt_T := mt_in3 167 (by decide +kernel) rfl
theorem wx_22 : Cond.instanceMethod (Bundle.initS Bundle.tN) ∈ mt_T := mt_in3 202 (by decide +kernel) rfl
theorem wx_23 : Cond.code (Bundle.initS Bundle.tN) LibCode.Throwable.InitS.code 2 none ∈ mt_T := mt_in3 203 (by decide +kernel) rfl
theorem wx_24 : Cond.fieldLink Bundle.tN 31 Bundle.tN "detailMessage" "Ljava/lang/String;" ∈ mt_T := mt_in3 205 (by decide +kernel) rfl
theorem wx_25 : Cond.instanceMethod (Bundle.initS xR) ∈ mt_T := mt_in3 196 (by decide +kernel) rfl
theorem wx_26 : Cond.code (Bundle.initS xR) Bundle.six 2 none ∈ mt_T := mt_in3 197 (by decide +kernel) rfl
theorem wx_27 : Cond.methodLink xR 7 (Bundle.initS xE) ∈ mt_T := mt_in3 198 (by decide +kernel) rfl
theorem wx_28 : Cond.instanceMethod (Bundle.initS xE) ∈ mt_T := mt_in3 199 (by decide +kernel) rfl
theorem wx_29 : Cond.declares (Bundle.initS xE) ∈ mt_face := List.mem_filter.mpr ⟨mt_tb3 (List.mem_of_getElem? (i := 155) (by decide +kernel)), rfl⟩
theorem wx_30 : Cond.code (Bundle.initS xE) Bundle.six 2 none ∈ mt_T := mt_in3 200 (by decide +kernel) rfl
theorem wx_31 : Cond.methodLink xE 7 (Bundle.initS Bundle.tN) ∈ mt_T := mt_in3 201 (by decide +kernel) rfl
theorem wx_32 : Cond.declares (Bundle.initS Bundle.tN) ∈ mt_face := List.mem_filter.mpr ⟨mt_tb3 (List.mem_of_getElem? (i := 157) (by decide +kernel)), rfl⟩
theorem wx_33 : Cond.instanceMethod (Bundle.initS xN) ∈ mt_T := mt_in3 193 (by decide +kernel) rfl
theorem wx_34 : Cond.code (Bundle.initS xN) xc13 2 none ∈ mt_T := mt_in3 194 (by decide +kernel) rfl
theorem wx_35 : Cond.methodLink xN 13 (Bundle.initS xR) ∈ mt_T := mt_in3 195 (by decide +kernel) rfl
theorem wx_36 : Cond.declares (Bundle.initS xR) ∈ mt_face := List.mem_filter.mpr ⟨mt_tb3 (List.mem_of_getElem? (i := 153) (by decide +kernel)), rfl⟩
theorem wx_37 : Cond.instantiable xN 6 ∈ mt_T := mt_in3 150 (by decide +kernel) rfl
theorem wx_38 : Cond.castable xN xN ∈ mt_face := List.mem_filter.mpr ⟨mt_tb3 (List.mem_of_getElem? (i := 151) (by decide +kernel)), rfl⟩
theorem wx_39 : Cond.selects xN Bundle.tFill0 Bundle.tFill0 ∈ mt_T := mt_in3 158 (by decide +kernel) rfl
theorem wx_40 : Cond.selects xN Bundle.tFill Bundle.tFill ∈ mt_T := mt_in3 159 (by decide +kernel) rfl
theorem wx_41 : Cond.lays xN Bundle.tN "cause" "Ljava/lang/Throwable;" ∈ mt_T := mt_in3 160 (by decide +kernel) rfl
theorem wx_42 : Cond.lays xN Bundle.tN "stackTrace" "[Ljava/lang/StackTraceElement;" ∈ mt_T := mt_in3 162 (by decide +kernel) rfl
theorem wx_43 : Cond.lays xN Bundle.tN "suppressedExceptions" "Ljava/util/List;" ∈ mt_T := mt_in3 164 (by decide +kernel) rfl
theorem wx_44 : Cond.lays xN Bundle.tN "detailMessage" "Ljava/lang/String;" ∈ mt_T := mt_in3 166 (by decide +kernel) rfl
theorem wx_45 : Cond.fieldLink Bundle.tN 198 Bundle.tN "backtrace" "Ljava/lang/Object;" ∈ mt_T := mt_in3 170 (by decide +kernel) rfl
theorem wx_46 : Cond.lays Bundle.tN Bundle.tN "backtrace" "Ljava/lang/Object;" ∈ mt_T := mt_in3 169 (by decide +kernel) rfl
theorem wx_47 : Cond.lays xN Bundle.tN "backtrace" "Ljava/lang/Object;" ∈ mt_T := mt_in3 168 (by decide +kernel) rfl
theorem wx_48 : Cond.initialized xN ∈ mt_T := mt_in1 19 (by decide +kernel) rfl
theorem wx_49 : Cond.instanceMethod (Bundle.initS xA) ∈ mt_T := mt_in3 228 (by decide +kernel) rfl
theorem wx_50 : Cond.code (Bundle.initS xA) Bundle.six 2 none ∈ mt_T := mt_in3 229 (by decide +kernel) rfl
theorem wx_51 : Cond.methodLink xA 7 (Bundle.initS xR) ∈ mt_T := mt_in3 230 (by decide +kernel) rfl
theorem wx_52 : Cond.instantiable xA 6 ∈ mt_T := mt_in3 218 (by decide +kernel) rfl
theorem wx_53 : Cond.castable xA xA ∈ mt_face := List.mem_filter.mpr ⟨mt_tb3 (List.mem_of_getElem? (i := 219) (by decide +kernel)), rfl⟩
theorem wx_54 : Cond.selects xA Bundle.tFill0 Bundle.tFill0 ∈ mt_T := mt_in3 220 (by decide +kernel) rfl
theorem wx_55 : Cond.selects xA Bundle.tFill Bundle.tFill ∈ mt_T := mt_in3 182 (by decide +kernel) rfl
theorem wx_56 : Cond.lays xA Bundle.tN "cause" "Ljava/lang/Throwable;" ∈ mt_T := mt_in3 221 (by decide +kernel) rfl
theorem wx_57 : Cond.lays xA Bundle.tN "stackTrace" "[Ljava/lang/StackTraceElement;" ∈ mt_T := mt_in3 222 (by decide +kernel) rfl
theorem wx_58 : Cond.lays xA Bundle.tN "suppressedExceptions" "Ljava/util/List;" ∈ mt_T := mt_in3 223 (by decide +kernel) rfl
theorem wx_59 : Cond.lays xA Bundle.tN "detailMessage" "Ljava/lang/String;" ∈ mt_T := mt_in3 224 (by decide +kernel) rfl
theorem wx_60 : Cond.lays xA Bundle.tN "backtrace" "Ljava/lang/Object;" ∈ mt_T := mt_in3 225 (by decide +kernel) rfl
theorem wx_61 : Cond.initialized xA ∈ mt_T := mt_in1 20 (by decide +kernel) rfl
theorem wx_62 : Cond.instanceMethod (Bundle.initS xI) ∈ mt_T := mt_in4 55 (by decide +kernel) rfl
theorem wx_63 : Cond.code (Bundle.initS xI) Bundle.six 2 none ∈ mt_T := mt_in4 56 (by decide +kernel) rfl
theorem wx_64 : Cond.methodLink xI 7 (Bundle.initS xR) ∈ mt_T := mt_in4 57 (by decide +kernel) rfl
theorem wx_65 : Cond.instantiable xI 6 ∈ mt_T := mt_in4 45 (by decide +kernel) rfl
theorem wx_66 : Cond.castable xI xI ∈ mt_face := List.mem_filter.mpr ⟨mt_tb4 (List.mem_of_getElem? (i := 46) (by decide +kernel)), rfl⟩
theorem wx_67 : Cond.selects xI Bundle.tFill0 Bundle.tFill0 ∈ mt_T := mt_in4 47 (by decide +kernel) rfl
theorem wx_68 : Cond.selects xI Bundle.tFill Bundle.tFill ∈ mt_T := mt_in3 183 (by decide +kernel) rfl
theorem wx_69 : Cond.lays xI Bundle.tN "cause" "Ljava/lang/Throwable;" ∈ mt_T := mt_in4 48 (by decide +kernel) rfl
theorem wx_70 : Cond.lays xI Bundle.tN "stackTrace" "[Ljava/lang/StackTraceElement;" ∈ mt_T := mt_in4 49 (by decide +kernel) rfl
theorem wx_71 : Cond.lays xI Bundle.tN "suppressedExceptions" "Ljava/util/List;" ∈ mt_T := mt_in4 50 (by decide +kernel) rfl
theorem wx_72 : Cond.lays xI Bundle.tN "detailMessage" "Ljava/lang/String;" ∈ mt_T := mt_in4 51 (by decide +kernel) rfl
theorem wx_73 : Cond.lays xI Bundle.tN "backtrace" "Ljava/lang/Object;" ∈ mt_T := mt_in4 52 (by decide +kernel) rfl
theorem wx_74 : Cond.initialized xI ∈ mt_T := mt_in1 21 (by decide +kernel) rfl
theorem wx_75 : Cond.instanceMethod (Bundle.initS xU) ∈ mt_T := mt_in4 124 (by decide +kernel) rfl
theorem wx_76 : Cond.code (Bundle.initS xU) Bundle.six 2 none ∈ mt_T := mt_in4 125 (by decide +kernel) rfl
theorem wx_77 : Cond.methodLink xU 7 (Bundle.initS xR) ∈ mt_T := mt_in4 126 (by decide +kernel) rfl
theorem wx_78 : Cond.instantiable xU 6 ∈ mt_T := mt_in4 114 (by decide +kernel) rfl
theorem wx_79 : Cond.castable xU xU ∈ mt_face := List.mem_filter.mpr ⟨mt_tb4 (List.mem_of_getElem? (i := 115) (by decide +kernel)), rfl⟩
theorem wx_80 : Cond.selects xU Bundle.tFill0 Bundle.tFill0 ∈ mt_T := mt_in4 116 (by decide +kernel) rfl
theorem wx_81 : Cond.selects xU Bundle.tFill Bundle.tFill ∈ mt_T := mt_in3 184 (by decide +kernel) rfl
theorem wx_82 : Cond.lays xU Bundle.tN "cause" "Ljava/lang/Throwable;" ∈ mt_T := mt_in4 117 (by decide +kernel) rfl
theorem wx_83 : Cond.lays xU Bundle.tN "stackTrace" "[Ljava/lang/StackTraceElement;" ∈ mt_T := mt_in4 118 (by decide +kernel) rfl
theorem wx_84 : Cond.lays xU Bundle.tN "suppressedExceptions" "Ljava/util/List;" ∈ mt_T := mt_in4 119 (by decide +kernel) rfl
theorem wx_85 : Cond.lays xU Bundle.tN "detailMessage" "Ljava/lang/String;" ∈ mt_T := mt_in4 120 (by decide +kernel) rfl
theorem wx_86 : Cond.lays xU Bundle.tN "backtrace" "Ljava/lang/Object;" ∈ mt_T := mt_in4 121 (by decide +kernel) rfl
theorem wx_87 : Cond.initialized xU ∈ mt_T := mt_in1 22 (by decide +kernel) rfl
theorem xw_t {args : Array Value} {s : State} (gT : ∀ w ∈ mt_T, w.before args s = true) (gF : ∀ w ∈ mt_face, w.before args s = true) (u1 : (Cond.laysStatic Bundle.tN "UNASSIGNED_STACK" Bundle.steD).before args s = true) (u2 : (Cond.laysStatic Bundle.tN "SUPPRESSED_SENTINEL" Bundle.listD).before args s = true) : ∀ w ∈ Bundle.throwableAtoms, w.before args s = true := (List.forall_mem_cons.mpr ⟨gT _ wx_0, (List.forall_mem_cons.mpr ⟨gT _ wx_1, (List.forall_mem_cons.mpr ⟨gT _ wx_2, (List.forall_mem_cons.mpr ⟨gT _ wx_3, (List.forall_mem_cons.mpr ⟨gT _ wx_4, (List.forall_mem_cons.mpr ⟨gT _ wx_5, (List.forall_mem_cons.mpr ⟨gT _ wx_6, (List.forall_mem_cons.mpr ⟨gT _ wx_7, (List.forall_mem_cons.mpr ⟨gT _ wx_8, (List.forall_mem_cons.mpr ⟨gT _ wx_9, (List.forall_mem_cons.mpr ⟨gT _ wx_10, (List.forall_mem_cons.mpr ⟨gT _ wx_11, (List.forall_mem_cons.mpr ⟨gT _ wx_12, (List.forall_mem_cons.mpr ⟨gT _ wx_13, (List.forall_mem_cons.mpr ⟨gT _ wx_14, (List.forall_mem_cons.mpr ⟨gT _ wx_15, (List.forall_mem_cons.mpr ⟨gT _ wx_16, (List.forall_mem_cons.mpr ⟨gT _ wx_17, (List.forall_mem_cons.mpr ⟨gT _ wx_18, (List.forall_mem_cons.mpr ⟨gT _ wx_19, (List.forall_mem_cons.mpr ⟨u1, (List.forall_mem_cons.mpr ⟨gT _ wx_20, (List.forall_mem_cons.mpr ⟨u2, (List.forall_mem_cons.mpr ⟨gT _ wx_21, (fun _ h => absurd h List.not_mem_nil)⟩)⟩)⟩)⟩)⟩)⟩)⟩)⟩)⟩)⟩)⟩)⟩)⟩)⟩)⟩)⟩)⟩)⟩)⟩)⟩)⟩)⟩)⟩)⟩)
theorem xw_s {args : Array Value} {s : State} (gT : ∀ w ∈ mt_T, w.before args s = true) (gF : ∀ w ∈ mt_face, w.before args s = true) : ∀ w ∈ Bundle.throwableSAtoms, w.before args s = true := (List.forall_mem_cons.mpr ⟨gT _ wx_22, (List.forall_mem_cons.mpr ⟨gT _ wx_23, (List.forall_mem_cons.mpr ⟨gT _ wx_24, (List.forall_mem_cons.mpr ⟨gT _ wx_21, (fun _ h => absurd h List.not_mem_nil)⟩)⟩)⟩)⟩)
theorem xw_c {args : Array Value} {s : State} (gT : ∀ w ∈ mt_T, w.before args s = true) (gF : ∀ w ∈ mt_face, w.before args s = true) : ∀ w ∈ Bundle.chainSAtoms xR [xE], w.before args s = true := List.forall_mem_append.mpr ⟨(List.forall_mem_cons.mpr ⟨gT _ wx_25, (List.forall_mem_cons.mpr ⟨gT _ wx_26, (List.forall_mem_cons.mpr ⟨gT _ wx_27, (List.forall_mem_cons.mpr ⟨gT _ wx_28, (List.forall_mem_cons.mpr ⟨gF _ wx_29, (fun _ h => absurd h List.not_mem_nil)⟩)⟩)⟩)⟩)⟩), (List.forall_mem_cons.mpr ⟨gT _ wx_28, (List.forall_mem_cons.mpr ⟨gT _ wx_30, (List.forall_mem_cons.mpr ⟨gT _ wx_31, (List.forall_mem_cons.mpr ⟨gT _ wx_22, (List.forall_mem_cons.mpr ⟨gF _ wx_32, (fun _ h => absurd h List.not_mem_nil)⟩)⟩)⟩)⟩)⟩)⟩
theorem xw_xN {args : Array Value} {s : State} (gT : ∀ w ∈ mt_T, w.before args s = true) (gF : ∀ w ∈ mt_face, w.before args s = true) (u1 : (Cond.laysStatic Bundle.tN "UNASSIGNED_STACK" Bundle.steD).before args s = true) (u2 : (Cond.laysStatic Bundle.tN "SUPPRESSED_SENTINEL" Bundle.listD).before args s = true) (u3 : (Cond.isRef (.static Bundle.tN "UNASSIGNED_STACK" Bundle.steD)).before args s = true) (u4 : (Cond.isRef (.static Bundle.tN "SUPPRESSED_SENTINEL" Bundle.listD)).before args s = true) {own : String} {ic : Nat} (hl : Cond.methodLink own ic (Bundle.initS xN) ∈ mt_T) : xa_ args s own ic xN 13 xc13 :=
  ⟨xw_t gT gF u1 u2, xw_s gT gF, (List.forall_mem_cons.mpr ⟨gT _ wx_33, (List.forall_mem_cons.mpr ⟨gT _ wx_34, (List.forall_mem_cons.mpr ⟨gT _ wx_35, (List.forall_mem_cons.mpr ⟨gT _ wx_25, (List.forall_mem_cons.mpr ⟨gF _ wx_36, (fun _ h => absurd h List.not_mem_nil)⟩)⟩)⟩)⟩)⟩), xw_c gT gF, List.forall_mem_cons.mpr ⟨gT _ hl, (List.forall_mem_cons.mpr ⟨gT _ wx_37, (List.forall_mem_cons.mpr ⟨gF _ wx_38, (List.forall_mem_cons.mpr ⟨gT _ wx_39, (List.forall_mem_cons.mpr ⟨gT _ wx_40, (List.forall_mem_cons.mpr ⟨gT _ wx_41, (List.forall_mem_cons.mpr ⟨gT _ wx_42, (List.forall_mem_cons.mpr ⟨gT _ wx_43, (List.forall_mem_cons.mpr ⟨gT _ wx_44, (List.forall_mem_cons.mpr ⟨u3, (List.forall_mem_cons.mpr ⟨u4, (List.forall_mem_cons.mpr ⟨gT _ wx_45, (List.forall_mem_cons.mpr ⟨gT _ wx_46, (List.forall_mem_cons.mpr ⟨gT _ wx_47, (fun _ h => absurd h List.not_mem_nil)⟩)⟩)⟩)⟩)⟩)⟩)⟩)⟩)⟩)⟩)⟩)⟩)⟩)⟩⟩
theorem xw_xA {args : Array Value} {s : State} (gT : ∀ w ∈ mt_T, w.before args s = true) (gF : ∀ w ∈ mt_face, w.before args s = true) (u1 : (Cond.laysStatic Bundle.tN "UNASSIGNED_STACK" Bundle.steD).before args s = true) (u2 : (Cond.laysStatic Bundle.tN "SUPPRESSED_SENTINEL" Bundle.listD).before args s = true) (u3 : (Cond.isRef (.static Bundle.tN "UNASSIGNED_STACK" Bundle.steD)).before args s = true) (u4 : (Cond.isRef (.static Bundle.tN "SUPPRESSED_SENTINEL" Bundle.listD)).before args s = true) {own : String} {ic : Nat} (hl : Cond.methodLink own ic (Bundle.initS xA) ∈ mt_T) : xa_ args s own ic xA 7 Bundle.six :=
  ⟨xw_t gT gF u1 u2, xw_s gT gF, (List.forall_mem_cons.mpr ⟨gT _ wx_49, (List.forall_mem_cons.mpr ⟨gT _ wx_50, (List.forall_mem_cons.mpr ⟨gT _ wx_51, (List.forall_mem_cons.mpr ⟨gT _ wx_25, (List.forall_mem_cons.mpr ⟨gF _ wx_36, (fun _ h => absurd h List.not_mem_nil)⟩)⟩)⟩)⟩)⟩), xw_c gT gF, List.forall_mem_cons.mpr ⟨gT _ hl, (List.forall_mem_cons.mpr ⟨gT _ wx_52, (List.forall_mem_cons.mpr ⟨gF _ wx_53, (List.forall_mem_cons.mpr ⟨gT _ wx_54, (List.forall_mem_cons.mpr ⟨gT _ wx_55, (List.forall_mem_cons.mpr ⟨gT _ wx_56, (List.forall_mem_cons.mpr ⟨gT _ wx_57, (List.forall_mem_cons.mpr ⟨gT _ wx_58, (List.forall_mem_cons.mpr ⟨gT _ wx_59, (List.forall_mem_cons.mpr ⟨u3, (List.forall_mem_cons.mpr ⟨u4, (List.forall_mem_cons.mpr ⟨gT _ wx_45, (List.forall_mem_cons.mpr ⟨gT _ wx_46, (List.forall_mem_cons.mpr ⟨gT _ wx_60, (fun _ h => absurd h List.not_mem_nil)⟩)⟩)⟩)⟩)⟩)⟩)⟩)⟩)⟩)⟩)⟩)⟩)⟩)⟩⟩
theorem xw_xI {args : Array Value} {s : State} (gT : ∀ w ∈ mt_T, w.before args s = true) (gF : ∀ w ∈ mt_face, w.before args s = true) (u1 : (Cond.laysStatic Bundle.tN "UNASSIGNED_STACK" Bundle.steD).before args s = true) (u2 : (Cond.laysStatic Bundle.tN "SUPPRESSED_SENTINEL" Bundle.listD).before args s = true) (u3 : (Cond.isRef (.static Bundle.tN "UNASSIGNED_STACK" Bundle.steD)).before args s = true) (u4 : (Cond.isRef (.static Bundle.tN "SUPPRESSED_SENTINEL" Bundle.listD)).before args s = true) {own : String} {ic : Nat} (hl : Cond.methodLink own ic (Bundle.initS xI) ∈ mt_T) : xa_ args s own ic xI 7 Bundle.six :=
  ⟨xw_t gT gF u1 u2, xw_s gT gF, (List.forall_mem_cons.mpr ⟨gT _ wx_62, (List.forall_mem_cons.mpr ⟨gT _ wx_63, (List.forall_mem_cons.mpr ⟨gT _ wx_64, (List.forall_mem_cons.mpr ⟨gT _ wx_25, (List.forall_mem_cons.mpr ⟨gF _ wx_36, (fun _ h => absurd h List.not_mem_nil)⟩)⟩)⟩)⟩)⟩), xw_c gT gF, List.forall_mem_cons.mpr ⟨gT _ hl, (List.forall_mem_cons.mpr ⟨gT _ wx_65, (List.forall_mem_cons.mpr ⟨gF _ wx_66, (List.forall_mem_cons.mpr ⟨gT _ wx_67, (List.forall_mem_cons.mpr ⟨gT _ wx_68, (List.forall_mem_cons.mpr ⟨gT _ wx_69, (List.forall_mem_cons.mpr ⟨gT _ wx_70, (List.forall_mem_cons.mpr ⟨gT _ wx_71, (List.forall_mem_cons.mpr ⟨gT _ wx_72, (List.forall_mem_cons.mpr ⟨u3, (List.forall_mem_cons.mpr ⟨u4, (List.forall_mem_cons.mpr ⟨gT _ wx_45, (List.forall_mem_cons.mpr ⟨gT _ wx_46, (List.forall_mem_cons.mpr ⟨gT _ wx_73, (fun _ h => absurd h List.not_mem_nil)⟩)⟩)⟩)⟩)⟩)⟩)⟩)⟩)⟩)⟩)⟩)⟩)⟩)⟩⟩
theorem xw_xU {args : Array Value} {s : State} (gT : ∀ w ∈ mt_T, w.before args s = true) (gF : ∀ w ∈ mt_face, w.before args s = true) (u1 : (Cond.laysStatic Bundle.tN "UNASSIGNED_STACK" Bundle.steD).before args s = true) (u2 : (Cond.laysStatic Bundle.tN "SUPPRESSED_SENTINEL" Bundle.listD).before args s = true) (u3 : (Cond.isRef (.static Bundle.tN "UNASSIGNED_STACK" Bundle.steD)).before args s = true) (u4 : (Cond.isRef (.static Bundle.tN "SUPPRESSED_SENTINEL" Bundle.listD)).before args s = true) {own : String} {ic : Nat} (hl : Cond.methodLink own ic (Bundle.initS xU) ∈ mt_T) : xa_ args s own ic xU 7 Bundle.six :=
  ⟨xw_t gT gF u1 u2, xw_s gT gF, (List.forall_mem_cons.mpr ⟨gT _ wx_75, (List.forall_mem_cons.mpr ⟨gT _ wx_76, (List.forall_mem_cons.mpr ⟨gT _ wx_77, (List.forall_mem_cons.mpr ⟨gT _ wx_25, (List.forall_mem_cons.mpr ⟨gF _ wx_36, (fun _ h => absurd h List.not_mem_nil)⟩)⟩)⟩)⟩)⟩), xw_c gT gF, List.forall_mem_cons.mpr ⟨gT _ hl, (List.forall_mem_cons.mpr ⟨gT _ wx_78, (List.forall_mem_cons.mpr ⟨gF _ wx_79, (List.forall_mem_cons.mpr ⟨gT _ wx_80, (List.forall_mem_cons.mpr ⟨gT _ wx_81, (List.forall_mem_cons.mpr ⟨gT _ wx_82, (List.forall_mem_cons.mpr ⟨gT _ wx_83, (List.forall_mem_cons.mpr ⟨gT _ wx_84, (List.forall_mem_cons.mpr ⟨gT _ wx_85, (List.forall_mem_cons.mpr ⟨u3, (List.forall_mem_cons.mpr ⟨u4, (List.forall_mem_cons.mpr ⟨gT _ wx_45, (List.forall_mem_cons.mpr ⟨gT _ wx_46, (List.forall_mem_cons.mpr ⟨gT _ wx_86, (fun _ h => absurd h List.not_mem_nil)⟩)⟩)⟩)⟩)⟩)⟩)⟩)⟩)⟩)⟩)⟩)⟩)⟩)⟩⟩
theorem xk_T_xN : Cond.classLink R_T 58 xN ∈ mt_T := mt_in3 149 (by decide +kernel) rfl
theorem xl_T_xN : Cond.methodLink R_T 62 (Bundle.initS xN) ∈ mt_T := mt_in3 192 (by decide +kernel) rfl
theorem xk_E_xN : Cond.classLink R_E 58 xN ∈ mt_T := mt_in4 4 (by decide +kernel) rfl
theorem xl_E_xN : Cond.methodLink R_E 62 (Bundle.initS xN) ∈ mt_T := mt_in4 6 (by decide +kernel) rfl
theorem xk_X_xN : Cond.classLink R_X 181 xN ∈ mt_T := mt_in4 18 (by decide +kernel) rfl
theorem xl_X_xN : Cond.methodLink R_X 185 (Bundle.initS xN) ∈ mt_T := mt_in4 20 (by decide +kernel) rfl
theorem xk_X_xA : Cond.classLink R_X 94 xA ∈ mt_T := mt_in3 217 (by decide +kernel) rfl
theorem xl_X_xA : Cond.methodLink R_X 98 (Bundle.initS xA) ∈ mt_T := mt_in3 227 (by decide +kernel) rfl
theorem xk_X_xI : Cond.classLink R_X 150 xI ∈ mt_T := mt_in4 44 (by decide +kernel) rfl
theorem xl_X_xI : Cond.methodLink R_X 154 (Bundle.initS xI) ∈ mt_T := mt_in4 54 (by decide +kernel) rfl
theorem xk_X_xU : Cond.classLink R_X 166 xU ∈ mt_T := mt_in4 113 (by decide +kernel) rfl
theorem xl_X_xU : Cond.methodLink R_X 170 (Bundle.initS xU) ∈ mt_T := mt_in4 123 (by decide +kernel) rfl
theorem xk_L_xN : Cond.classLink R_L 13 xN ∈ mt_T := mt_in3 139 (by decide +kernel) rfl
theorem xk_L_xA : Cond.classLink R_L 15 xA ∈ mt_T := mt_in3 140 (by decide +kernel) rfl
theorem xk_L_xI : Cond.classLink R_L 35 xI ∈ mt_T := mt_in4 38 (by decide +kernel) rfl
theorem xk_L_xU : Cond.classLink R_L 37 xU ∈ mt_T := mt_in4 39 (by decide +kernel) rfl
