/-! The JDK's methods that the class reaches: names, words, links, decode rows: by program (wip/whole/gen/genjdk.py). -/
def R_Q : String := "java/lang/String"
def R_J : String := "java/lang/StringLatin1"
def R_H : String := "java/lang/Math"
def R_K : String := "jdk/internal/util/Preconditions"
abbrev c_Q_length : ByteArray := prog_17_method_54_code
def y_Q_length : MethodName := ⟨R_Q, "length", "()I"⟩
abbrev c_Q_coder : ByteArray := prog_17_method_152_code
def y_Q_coder : MethodName := ⟨R_Q, "coder", "()B"⟩
abbrev c_Q_isLatin1 : ByteArray := prog_17_method_154_code
def y_Q_isLatin1 : MethodName := ⟨R_Q, "isLatin1", "()Z"⟩
abbrev c_Q_charAt : ByteArray := prog_17_method_56_code
def y_Q_charAt : MethodName := ⟨R_Q, "charAt", "(I)C"⟩
abbrev c_Q_indexOf1 : ByteArray := prog_17_method_79_code
def y_Q_indexOf1 : MethodName := ⟨R_Q, "indexOf", "(I)I"⟩
abbrev c_Q_indexOf2 : ByteArray := prog_17_method_80_code
def y_Q_indexOf2 : MethodName := ⟨R_Q, "indexOf", "(II)I"⟩
abbrev c_Q_checkIndex : ByteArray := prog_17_method_155_code
def y_Q_checkIndex : MethodName := ⟨R_Q, "checkIndex", "(II)V"⟩
abbrev c_J_charAt : ByteArray := prog_18_method_2_code
def y_J_charAt : MethodName := ⟨R_J, "charAt", "([BI)C"⟩
abbrev c_J_indexOf : ByteArray := prog_18_method_22_code
def y_J_indexOf : MethodName := ⟨R_J, "indexOf", "([BIII)I"⟩
abbrev c_J_indexOfChar : ByteArray := prog_18_method_23_code
def y_J_indexOfChar : MethodName := ⟨R_J, "indexOfChar", "([BIII)I"⟩
abbrev c_J_canEncode : ByteArray := prog_18_method_4_code
def y_J_canEncode : MethodName := ⟨R_J, "canEncode", "(I)Z"⟩
abbrev c_H_max : ByteArray := prog_15_method_65_code
def y_H_max : MethodName := ⟨R_H, "max", "(II)I"⟩
abbrev c_H_min : ByteArray := prog_15_method_69_code
def y_H_min : MethodName := ⟨R_H, "min", "(II)I"⟩
abbrev c_K_checkIndex : ByteArray := prog_23_method_11_code
def y_K_checkIndex : MethodName := ⟨R_K, "checkIndex", "(IILjava/util/function/BiFunction;)I"⟩
theorem wc_Q_length : Cond.code y_Q_length c_Q_length 1 (some .int) ∈ mt_T := mt_in2 139 (by decide +kernel) rfl
theorem wi_Q : Cond.initialized R_Q ∈ mt_T := mt_in1 10 (by decide +kernel) rfl
theorem wm_B_31 : Cond.methodLink R_B 31 y_Q_length ∈ mt_T := mt_in2 136 (by decide +kernel) rfl
theorem wn_Q_length : Cond.instanceMethod y_Q_length ∈ mt_T := mt_in2 137 (by decide +kernel) rfl
theorem ws_Q_length : Cond.selects R_Q y_Q_length y_Q_length ∈ mt_T := mt_in2 138 (by decide +kernel) rfl
theorem cv_B_31 : cV_ R_B 31 y_Q_length c_Q_length 1 (some .int) 0 := ⟨fa5 wm_B_31 wn_Q_length ws_Q_length wi_Q wc_Q_length, by decide, by decide, by decide +kernel⟩
theorem wc_Q_coder : Cond.code y_Q_coder c_Q_coder 1 (some .byte) ∈ mt_T := mt_in2 143 (by decide +kernel) rfl
theorem wm_Q_335 : Cond.methodLink R_Q 335 y_Q_coder ∈ mt_T := mt_in2 140 (by decide +kernel) rfl
theorem wn_Q_coder : Cond.instanceMethod y_Q_coder ∈ mt_T := mt_in2 141 (by decide +kernel) rfl
theorem ws_Q_coder : Cond.selects R_Q y_Q_coder y_Q_coder ∈ mt_T := mt_in2 142 (by decide +kernel) rfl
theorem cv_Q_335 : cV_ R_Q 335 y_Q_coder c_Q_coder 1 (some .byte) 0 := ⟨fa5 wm_Q_335 wn_Q_coder ws_Q_coder wi_Q wc_Q_coder, by decide, by decide, by decide +kernel⟩
theorem wc_Q_charAt : Cond.code y_Q_charAt c_Q_charAt 2 (some .char) ∈ mt_T := mt_in2 152 (by decide +kernel) rfl
theorem wm_B_37 : Cond.methodLink R_B 37 y_Q_charAt ∈ mt_T := mt_in2 149 (by decide +kernel) rfl
theorem wn_Q_charAt : Cond.instanceMethod y_Q_charAt ∈ mt_T := mt_in2 150 (by decide +kernel) rfl
theorem ws_Q_charAt : Cond.selects R_Q y_Q_charAt y_Q_charAt ∈ mt_T := mt_in2 151 (by decide +kernel) rfl
theorem cv_B_37 : cV_ R_B 37 y_Q_charAt c_Q_charAt 2 (some .char) 1 := ⟨fa5 wm_B_37 wn_Q_charAt ws_Q_charAt wi_Q wc_Q_charAt, by decide, by decide, by decide +kernel⟩
theorem wc_Q_isLatin1 : Cond.code y_Q_isLatin1 c_Q_isLatin1 1 (some .boolean) ∈ mt_T := mt_in2 156 (by decide +kernel) rfl
theorem wm_Q_492 : Cond.methodLink R_Q 492 y_Q_isLatin1 ∈ mt_T := mt_in2 153 (by decide +kernel) rfl
theorem wn_Q_isLatin1 : Cond.instanceMethod y_Q_isLatin1 ∈ mt_T := mt_in2 154 (by decide +kernel) rfl
theorem ws_Q_isLatin1 : Cond.selects R_Q y_Q_isLatin1 y_Q_isLatin1 ∈ mt_T := mt_in2 155 (by decide +kernel) rfl
theorem cv_Q_492 : cV_ R_Q 492 y_Q_isLatin1 c_Q_isLatin1 1 (some .boolean) 0 := ⟨fa5 wm_Q_492 wn_Q_isLatin1 ws_Q_isLatin1 wi_Q wc_Q_isLatin1, by decide, by decide, by decide +kernel⟩
theorem wc_J_charAt : Cond.code y_J_charAt c_J_charAt 2 (some .char) ∈ mt_T := mt_in2 159 (by decide +kernel) rfl
theorem wi_J : Cond.initialized R_J ∈ mt_T := mt_in1 11 (by decide +kernel) rfl
theorem wm_Q_495 : Cond.methodLink R_Q 495 y_J_charAt ∈ mt_T := mt_in2 157 (by decide +kernel) rfl
theorem wt_J_charAt : Cond.static y_J_charAt ∈ mt_T := mt_in2 158 (by decide +kernel) rfl
theorem cv_Q_495 : cO_ R_Q 495 y_J_charAt c_J_charAt 2 (some .char) 2 := ⟨fa4 wm_Q_495 wt_J_charAt wi_J wc_J_charAt, by decide, by decide, by decide +kernel⟩
theorem wc_Q_checkIndex : Cond.code y_Q_checkIndex c_Q_checkIndex 2 none ∈ mt_T := mt_in2 162 (by decide +kernel) rfl
theorem wm_J_9 : Cond.methodLink R_J 9 y_Q_checkIndex ∈ mt_T := mt_in2 160 (by decide +kernel) rfl
theorem wt_Q_checkIndex : Cond.static y_Q_checkIndex ∈ mt_T := mt_in2 161 (by decide +kernel) rfl
theorem cv_J_9 : cO_ R_J 9 y_Q_checkIndex c_Q_checkIndex 2 none 2 := ⟨fa4 wm_J_9 wt_Q_checkIndex wi_Q wc_Q_checkIndex, by decide, by decide, by decide +kernel⟩
theorem wc_K_checkIndex : Cond.code y_K_checkIndex c_K_checkIndex 3 (some .int) ∈ mt_T := mt_in2 167 (by decide +kernel) rfl
theorem wi_K : Cond.initialized R_K ∈ mt_T := mt_in1 12 (by decide +kernel) rfl
theorem wm_Q_1059 : Cond.methodLink R_Q 1059 y_K_checkIndex ∈ mt_T := mt_in2 165 (by decide +kernel) rfl
theorem wt_K_checkIndex : Cond.static y_K_checkIndex ∈ mt_T := mt_in2 166 (by decide +kernel) rfl
theorem cv_Q_1059 : cO_ R_Q 1059 y_K_checkIndex c_K_checkIndex 3 (some .int) 3 := ⟨fa4 wm_Q_1059 wt_K_checkIndex wi_K wc_K_checkIndex, by decide, by decide, by decide +kernel⟩
theorem wc_Q_indexOf1 : Cond.code y_Q_indexOf1 c_Q_indexOf1 2 (some .int) ∈ mt_T := mt_in2 209 (by decide +kernel) rfl
theorem wm_X_188 : Cond.methodLink R_X 188 y_Q_indexOf1 ∈ mt_T := mt_in2 206 (by decide +kernel) rfl
theorem wn_Q_indexOf1 : Cond.instanceMethod y_Q_indexOf1 ∈ mt_T := mt_in2 207 (by decide +kernel) rfl
theorem ws_Q_indexOf1 : Cond.selects R_Q y_Q_indexOf1 y_Q_indexOf1 ∈ mt_T := mt_in2 208 (by decide +kernel) rfl
theorem cv_X_188 : cV_ R_X 188 y_Q_indexOf1 c_Q_indexOf1 2 (some .int) 1 := ⟨fa5 wm_X_188 wn_Q_indexOf1 ws_Q_indexOf1 wi_Q wc_Q_indexOf1, by decide, by decide, by decide +kernel⟩
theorem wc_Q_indexOf2 : Cond.code y_Q_indexOf2 c_Q_indexOf2 3 (some .int) ∈ mt_T := mt_in2 213 (by decide +kernel) rfl
theorem wm_Q_633 : Cond.methodLink R_Q 633 y_Q_indexOf2 ∈ mt_T := mt_in2 210 (by decide +kernel) rfl
theorem wn_Q_indexOf2 : Cond.instanceMethod y_Q_indexOf2 ∈ mt_T := mt_in2 211 (by decide +kernel) rfl
theorem ws_Q_indexOf2 : Cond.selects R_Q y_Q_indexOf2 y_Q_indexOf2 ∈ mt_T := mt_in2 212 (by decide +kernel) rfl
theorem cv_Q_633 : cV_ R_Q 633 y_Q_indexOf2 c_Q_indexOf2 3 (some .int) 2 := ⟨fa5 wm_Q_633 wn_Q_indexOf2 ws_Q_indexOf2 wi_Q wc_Q_indexOf2, by decide, by decide, by decide +kernel⟩
theorem wm_Q_505 : Cond.methodLink R_Q 505 y_Q_length ∈ mt_T := mt_in2 214 (by decide +kernel) rfl
theorem cv_Q_505 : cV_ R_Q 505 y_Q_length c_Q_length 1 (some .int) 0 := ⟨fa5 wm_Q_505 wn_Q_length ws_Q_length wi_Q wc_Q_length, by decide, by decide, by decide +kernel⟩
theorem wc_J_indexOf : Cond.code y_J_indexOf c_J_indexOf 4 (some .int) ∈ mt_T := mt_in2 217 (by decide +kernel) rfl
theorem wm_Q_637 : Cond.methodLink R_Q 637 y_J_indexOf ∈ mt_T := mt_in2 215 (by decide +kernel) rfl
theorem wt_J_indexOf : Cond.static y_J_indexOf ∈ mt_T := mt_in2 216 (by decide +kernel) rfl
theorem cv_Q_637 : cO_ R_Q 637 y_J_indexOf c_J_indexOf 4 (some .int) 4 := ⟨fa4 wm_Q_637 wt_J_indexOf wi_J wc_J_indexOf, by decide, by decide, by decide +kernel⟩
theorem wc_J_canEncode : Cond.code y_J_canEncode c_J_canEncode 1 (some .boolean) ∈ mt_T := mt_in2 220 (by decide +kernel) rfl
theorem wm_J_88 : Cond.methodLink R_J 88 y_J_canEncode ∈ mt_T := mt_in2 218 (by decide +kernel) rfl
theorem wt_J_canEncode : Cond.static y_J_canEncode ∈ mt_T := mt_in2 219 (by decide +kernel) rfl
theorem cv_J_88 : cO_ R_J 88 y_J_canEncode c_J_canEncode 1 (some .boolean) 1 := ⟨fa4 wm_J_88 wt_J_canEncode wi_J wc_J_canEncode, by decide, by decide, by decide +kernel⟩
theorem wc_H_max : Cond.code y_H_max c_H_max 2 (some .int) ∈ mt_T := mt_in2 223 (by decide +kernel) rfl
theorem wi_H : Cond.initialized R_H ∈ mt_T := mt_in1 14 (by decide +kernel) rfl
theorem wm_J_92 : Cond.methodLink R_J 92 y_H_max ∈ mt_T := mt_in2 221 (by decide +kernel) rfl
theorem wt_H_max : Cond.static y_H_max ∈ mt_T := mt_in2 222 (by decide +kernel) rfl
theorem cv_J_92 : cO_ R_J 92 y_H_max c_H_max 2 (some .int) 2 := ⟨fa4 wm_J_92 wt_H_max wi_H wc_H_max, by decide, by decide, by decide +kernel⟩
theorem wc_H_min : Cond.code y_H_min c_H_min 2 (some .int) ∈ mt_T := mt_in2 226 (by decide +kernel) rfl
theorem wm_J_38 : Cond.methodLink R_J 38 y_H_min ∈ mt_T := mt_in2 224 (by decide +kernel) rfl
theorem wt_H_min : Cond.static y_H_min ∈ mt_T := mt_in2 225 (by decide +kernel) rfl
theorem cv_J_38 : cO_ R_J 38 y_H_min c_H_min 2 (some .int) 2 := ⟨fa4 wm_J_38 wt_H_min wi_H wc_H_min, by decide, by decide, by decide +kernel⟩
theorem wc_J_indexOfChar : Cond.code y_J_indexOfChar c_J_indexOfChar 6 (some .int) ∈ mt_T := mt_in2 229 (by decide +kernel) rfl
theorem wm_J_95 : Cond.methodLink R_J 95 y_J_indexOfChar ∈ mt_T := mt_in2 227 (by decide +kernel) rfl
theorem wt_J_indexOfChar : Cond.static y_J_indexOfChar ∈ mt_T := mt_in2 228 (by decide +kernel) rfl
theorem cv_J_95 : cO_ R_J 95 y_J_indexOfChar c_J_indexOfChar 6 (some .int) 4 := ⟨fa4 wm_J_95 wt_J_indexOfChar wi_J wc_J_indexOfChar, by decide, by decide, by decide +kernel⟩
theorem wm_T_250 : Cond.methodLink R_T 250 y_Q_length ∈ mt_T := mt_in3 114 (by decide +kernel) rfl
theorem cv_T_250 : cV_ R_T 250 y_Q_length c_Q_length 1 (some .int) 0 := ⟨fa5 wm_T_250 wn_Q_length ws_Q_length wi_Q wc_Q_length, by decide, by decide, by decide +kernel⟩
theorem wm_T_240 : Cond.methodLink R_T 240 y_H_max ∈ mt_T := mt_in3 119 (by decide +kernel) rfl
theorem cv_T_240 : cO_ R_T 240 y_H_max c_H_max 2 (some .int) 2 := ⟨fa4 wm_T_240 wt_H_max wi_H wc_H_max, by decide, by decide, by decide +kernel⟩
theorem wm_X_175 : Cond.methodLink R_X 175 y_H_min ∈ mt_T := mt_in3 134 (by decide +kernel) rfl
theorem cv_X_175 : cO_ R_X 175 y_H_min c_H_min 2 (some .int) 2 := ⟨fa4 wm_X_175 wt_H_min wi_H wc_H_min, by decide, by decide, by decide +kernel⟩
theorem wm_P_125 : Cond.methodLink R_P 125 y_H_min ∈ mt_T := mt_in4 83 (by decide +kernel) rfl
theorem cv_P_125 : cO_ R_P 125 y_H_min c_H_min 2 (some .int) 2 := ⟨fa4 wm_P_125 wt_H_min wi_H wc_H_min, by decide, by decide, by decide +kernel⟩
theorem wm_P_140 : Cond.methodLink R_P 140 y_Q_charAt ∈ mt_T := mt_in4 90 (by decide +kernel) rfl
theorem cv_P_140 : cV_ R_P 140 y_Q_charAt c_Q_charAt 2 (some .char) 1 := ⟨fa5 wm_P_140 wn_Q_charAt ws_Q_charAt wi_Q wc_Q_charAt, by decide, by decide, by decide +kernel⟩
theorem wf_Q_38 : Cond.fieldLink R_Q 38 "java/lang/String" "COMPACT_STRINGS" "Z" ∈ mt_T := mt_in2 144 (by decide +kernel) rfl
theorem wf_Q_1053 : Cond.fieldLink R_Q 1053 "jdk/internal/util/Preconditions" "SIOOBE_FORMATTER" "Ljava/util/function/BiFunction;" ∈ mt_T := mt_in2 163 (by decide +kernel) rfl
theorem wf_Q_9 : Cond.fieldLink R_Q 9 "java/lang/String" "value" "[B" ∈ mt_T := mt_in6 4 (by decide +kernel) rfl
theorem wf_Q_15 : Cond.fieldLink R_Q 15 "java/lang/String" "coder" "B" ∈ mt_T := mt_in6 5 (by decide +kernel) rfl
theorem d_Q_length_0 : decode c_Q_length 0 = .ok (.aload_n 0, 1) := by decide +kernel
theorem d_Q_length_1 : decode c_Q_length 1 = .ok (.getfield 9, 3) := by decide +kernel
theorem d_Q_length_4 : decode c_Q_length 4 = .ok (.arraylength, 1) := by decide +kernel
theorem d_Q_length_5 : decode c_Q_length 5 = .ok (.aload_n 0, 1) := by decide +kernel
theorem d_Q_length_6 : decode c_Q_length 6 = .ok (.invokevirtual 335, 3) := by decide +kernel
theorem d_Q_length_9 : decode c_Q_length 9 = .ok (.ishr, 1) := by decide +kernel
theorem d_Q_length_10 : decode c_Q_length 10 = .ok (.ireturn, 1) := by decide +kernel
theorem d_Q_coder_0 : decode c_Q_coder 0 = .ok (.getstatic 38, 3) := by decide +kernel
theorem d_Q_coder_3 : decode c_Q_coder 3 = .ok (.ifCond .eq 10, 3) := by decide +kernel
theorem d_Q_coder_6 : decode c_Q_coder 6 = .ok (.aload_n 0, 1) := by decide +kernel
theorem d_Q_coder_7 : decode c_Q_coder 7 = .ok (.getfield 15, 3) := by decide +kernel
theorem d_Q_coder_10 : decode c_Q_coder 10 = .ok (.goto 4, 3) := by decide +kernel
theorem d_Q_coder_13 : decode c_Q_coder 13 = .ok (.iconst 1, 1) := by decide +kernel
theorem d_Q_coder_14 : decode c_Q_coder 14 = .ok (.ireturn, 1) := by decide +kernel
theorem d_Q_isLatin1_0 : decode c_Q_isLatin1 0 = .ok (.getstatic 38, 3) := by decide +kernel
theorem d_Q_isLatin1_3 : decode c_Q_isLatin1 3 = .ok (.ifCond .eq 14, 3) := by decide +kernel
theorem d_Q_isLatin1_6 : decode c_Q_isLatin1 6 = .ok (.aload_n 0, 1) := by decide +kernel
theorem d_Q_isLatin1_7 : decode c_Q_isLatin1 7 = .ok (.getfield 15, 3) := by decide +kernel
theorem d_Q_isLatin1_10 : decode c_Q_isLatin1 10 = .ok (.ifCond .ne 7, 3) := by decide +kernel
theorem d_Q_isLatin1_13 : decode c_Q_isLatin1 13 = .ok (.iconst 1, 1) := by decide +kernel
theorem d_Q_isLatin1_14 : decode c_Q_isLatin1 14 = .ok (.goto 4, 3) := by decide +kernel
theorem d_Q_isLatin1_17 : decode c_Q_isLatin1 17 = .ok (.iconst 0, 1) := by decide +kernel
theorem d_Q_isLatin1_18 : decode c_Q_isLatin1 18 = .ok (.ireturn, 1) := by decide +kernel
theorem d_Q_charAt_0 : decode c_Q_charAt 0 = .ok (.aload_n 0, 1) := by decide +kernel
theorem d_Q_charAt_1 : decode c_Q_charAt 1 = .ok (.invokevirtual 492, 3) := by decide +kernel
theorem d_Q_charAt_4 : decode c_Q_charAt 4 = .ok (.ifCond .eq 12, 3) := by decide +kernel
theorem d_Q_charAt_7 : decode c_Q_charAt 7 = .ok (.aload_n 0, 1) := by decide +kernel
theorem d_Q_charAt_8 : decode c_Q_charAt 8 = .ok (.getfield 9, 3) := by decide +kernel
theorem d_Q_charAt_11 : decode c_Q_charAt 11 = .ok (.iload_n 1, 1) := by decide +kernel
theorem d_Q_charAt_12 : decode c_Q_charAt 12 = .ok (.invokestatic 495, 3) := by decide +kernel
theorem d_Q_charAt_15 : decode c_Q_charAt 15 = .ok (.ireturn, 1) := by decide +kernel
theorem d_Q_charAt_16 : decode c_Q_charAt 16 = .ok (.aload_n 0, 1) := by decide +kernel
theorem d_Q_charAt_17 : decode c_Q_charAt 17 = .ok (.getfield 9, 3) := by decide +kernel
theorem d_Q_charAt_20 : decode c_Q_charAt 20 = .ok (.iload_n 1, 1) := by decide +kernel
theorem d_Q_charAt_21 : decode c_Q_charAt 21 = .ok (.invokestatic 498, 3) := by decide +kernel
theorem d_Q_charAt_24 : decode c_Q_charAt 24 = .ok (.ireturn, 1) := by decide +kernel
theorem d_Q_indexOf1_0 : decode c_Q_indexOf1 0 = .ok (.aload_n 0, 1) := by decide +kernel
theorem d_Q_indexOf1_1 : decode c_Q_indexOf1 1 = .ok (.iload_n 1, 1) := by decide +kernel
theorem d_Q_indexOf1_2 : decode c_Q_indexOf1 2 = .ok (.iconst 0, 1) := by decide +kernel
theorem d_Q_indexOf1_3 : decode c_Q_indexOf1 3 = .ok (.invokevirtual 633, 3) := by decide +kernel
theorem d_Q_indexOf1_6 : decode c_Q_indexOf1 6 = .ok (.ireturn, 1) := by decide +kernel
theorem d_Q_indexOf2_0 : decode c_Q_indexOf2 0 = .ok (.aload_n 0, 1) := by decide +kernel
theorem d_Q_indexOf2_1 : decode c_Q_indexOf2 1 = .ok (.invokevirtual 492, 3) := by decide +kernel
theorem d_Q_indexOf2_4 : decode c_Q_indexOf2 4 = .ok (.ifCond .eq 19, 3) := by decide +kernel
theorem d_Q_indexOf2_7 : decode c_Q_indexOf2 7 = .ok (.aload_n 0, 1) := by decide +kernel
theorem d_Q_indexOf2_8 : decode c_Q_indexOf2 8 = .ok (.getfield 9, 3) := by decide +kernel
theorem d_Q_indexOf2_11 : decode c_Q_indexOf2 11 = .ok (.iload_n 1, 1) := by decide +kernel
theorem d_Q_indexOf2_12 : decode c_Q_indexOf2 12 = .ok (.iload_n 2, 1) := by decide +kernel
theorem d_Q_indexOf2_13 : decode c_Q_indexOf2 13 = .ok (.aload_n 0, 1) := by decide +kernel
theorem d_Q_indexOf2_14 : decode c_Q_indexOf2 14 = .ok (.invokevirtual 505, 3) := by decide +kernel
theorem d_Q_indexOf2_17 : decode c_Q_indexOf2 17 = .ok (.invokestatic 637, 3) := by decide +kernel
theorem d_Q_indexOf2_20 : decode c_Q_indexOf2 20 = .ok (.goto 16, 3) := by decide +kernel
theorem d_Q_indexOf2_23 : decode c_Q_indexOf2 23 = .ok (.aload_n 0, 1) := by decide +kernel
theorem d_Q_indexOf2_24 : decode c_Q_indexOf2 24 = .ok (.getfield 9, 3) := by decide +kernel
theorem d_Q_indexOf2_27 : decode c_Q_indexOf2 27 = .ok (.iload_n 1, 1) := by decide +kernel
theorem d_Q_indexOf2_28 : decode c_Q_indexOf2 28 = .ok (.iload_n 2, 1) := by decide +kernel
theorem d_Q_indexOf2_29 : decode c_Q_indexOf2 29 = .ok (.aload_n 0, 1) := by decide +kernel
theorem d_Q_indexOf2_30 : decode c_Q_indexOf2 30 = .ok (.invokevirtual 505, 3) := by decide +kernel
theorem d_Q_indexOf2_33 : decode c_Q_indexOf2 33 = .ok (.invokestatic 640, 3) := by decide +kernel
theorem d_Q_indexOf2_36 : decode c_Q_indexOf2 36 = .ok (.ireturn, 1) := by decide +kernel
theorem d_Q_checkIndex_0 : decode c_Q_checkIndex 0 = .ok (.iload_n 0, 1) := by decide +kernel
theorem d_Q_checkIndex_1 : decode c_Q_checkIndex 1 = .ok (.iload_n 1, 1) := by decide +kernel
theorem d_Q_checkIndex_2 : decode c_Q_checkIndex 2 = .ok (.getstatic 1053, 3) := by decide +kernel
theorem d_Q_checkIndex_5 : decode c_Q_checkIndex 5 = .ok (.invokestatic 1059, 3) := by decide +kernel
theorem d_Q_checkIndex_8 : decode c_Q_checkIndex 8 = .ok (.pop, 1) := by decide +kernel
theorem d_Q_checkIndex_9 : decode c_Q_checkIndex 9 = .ok (.return_, 1) := by decide +kernel
theorem d_J_charAt_0 : decode c_J_charAt 0 = .ok (.iload_n 1, 1) := by decide +kernel
theorem d_J_charAt_1 : decode c_J_charAt 1 = .ok (.aload_n 0, 1) := by decide +kernel
theorem d_J_charAt_2 : decode c_J_charAt 2 = .ok (.arraylength, 1) := by decide +kernel
theorem d_J_charAt_3 : decode c_J_charAt 3 = .ok (.invokestatic 9, 3) := by decide +kernel
theorem d_J_charAt_6 : decode c_J_charAt 6 = .ok (.aload_n 0, 1) := by decide +kernel
theorem d_J_charAt_7 : decode c_J_charAt 7 = .ok (.iload_n 1, 1) := by decide +kernel
theorem d_J_charAt_8 : decode c_J_charAt 8 = .ok (.baload, 1) := by decide +kernel
theorem d_J_charAt_9 : decode c_J_charAt 9 = .ok (.sipush 255, 3) := by decide +kernel
theorem d_J_charAt_12 : decode c_J_charAt 12 = .ok (.iand, 1) := by decide +kernel
theorem d_J_charAt_13 : decode c_J_charAt 13 = .ok (.i2c, 1) := by decide +kernel
theorem d_J_charAt_14 : decode c_J_charAt 14 = .ok (.ireturn, 1) := by decide +kernel
theorem d_J_indexOf_0 : decode c_J_indexOf 0 = .ok (.iload_n 1, 1) := by decide +kernel
theorem d_J_indexOf_1 : decode c_J_indexOf 1 = .ok (.invokestatic 88, 3) := by decide +kernel
theorem d_J_indexOf_4 : decode c_J_indexOf 4 = .ok (.ifCond .ne 5, 3) := by decide +kernel
theorem d_J_indexOf_7 : decode c_J_indexOf 7 = .ok (.iconst (-1), 1) := by decide +kernel
theorem d_J_indexOf_8 : decode c_J_indexOf 8 = .ok (.ireturn, 1) := by decide +kernel
theorem d_J_indexOf_9 : decode c_J_indexOf 9 = .ok (.iload_n 2, 1) := by decide +kernel
theorem d_J_indexOf_10 : decode c_J_indexOf 10 = .ok (.iconst 0, 1) := by decide +kernel
theorem d_J_indexOf_11 : decode c_J_indexOf 11 = .ok (.invokestatic 92, 3) := by decide +kernel
theorem d_J_indexOf_14 : decode c_J_indexOf 14 = .ok (.istore_n 2, 1) := by decide +kernel
theorem d_J_indexOf_15 : decode c_J_indexOf 15 = .ok (.iload_n 3, 1) := by decide +kernel
theorem d_J_indexOf_16 : decode c_J_indexOf 16 = .ok (.aload_n 0, 1) := by decide +kernel
theorem d_J_indexOf_17 : decode c_J_indexOf 17 = .ok (.arraylength, 1) := by decide +kernel
theorem d_J_indexOf_18 : decode c_J_indexOf 18 = .ok (.invokestatic 38, 3) := by decide +kernel
theorem d_J_indexOf_21 : decode c_J_indexOf 21 = .ok (.istore_n 3, 1) := by decide +kernel
theorem d_J_indexOf_22 : decode c_J_indexOf 22 = .ok (.iload_n 2, 1) := by decide +kernel
theorem d_J_indexOf_23 : decode c_J_indexOf 23 = .ok (.iload_n 3, 1) := by decide +kernel
theorem d_J_indexOf_24 : decode c_J_indexOf 24 = .ok (.if_icmp .lt 5, 3) := by decide +kernel
theorem d_J_indexOf_27 : decode c_J_indexOf 27 = .ok (.iconst (-1), 1) := by decide +kernel
theorem d_J_indexOf_28 : decode c_J_indexOf 28 = .ok (.ireturn, 1) := by decide +kernel
theorem d_J_indexOf_29 : decode c_J_indexOf 29 = .ok (.aload_n 0, 1) := by decide +kernel
theorem d_J_indexOf_30 : decode c_J_indexOf 30 = .ok (.iload_n 1, 1) := by decide +kernel
theorem d_J_indexOf_31 : decode c_J_indexOf 31 = .ok (.iload_n 2, 1) := by decide +kernel
theorem d_J_indexOf_32 : decode c_J_indexOf 32 = .ok (.iload_n 3, 1) := by decide +kernel
theorem d_J_indexOf_33 : decode c_J_indexOf 33 = .ok (.invokestatic 95, 3) := by decide +kernel
theorem d_J_indexOf_36 : decode c_J_indexOf 36 = .ok (.ireturn, 1) := by decide +kernel
theorem d_J_indexOfChar_0 : decode c_J_indexOfChar 0 = .ok (.iload_n 1, 1) := by decide +kernel
theorem d_J_indexOfChar_1 : decode c_J_indexOfChar 1 = .ok (.i2b, 1) := by decide +kernel
theorem d_J_indexOfChar_2 : decode c_J_indexOfChar 2 = .ok (.istore 4, 2) := by decide +kernel
theorem d_J_indexOfChar_4 : decode c_J_indexOfChar 4 = .ok (.iload_n 2, 1) := by decide +kernel
theorem d_J_indexOfChar_5 : decode c_J_indexOfChar 5 = .ok (.istore 5, 2) := by decide +kernel
theorem d_J_indexOfChar_7 : decode c_J_indexOfChar 7 = .ok (.iload 5, 2) := by decide +kernel
theorem d_J_indexOfChar_9 : decode c_J_indexOfChar 9 = .ok (.iload_n 3, 1) := by decide +kernel
theorem d_J_indexOfChar_10 : decode c_J_indexOfChar 10 = .ok (.if_icmp .ge 21, 3) := by decide +kernel
theorem d_J_indexOfChar_13 : decode c_J_indexOfChar 13 = .ok (.aload_n 0, 1) := by decide +kernel
theorem d_J_indexOfChar_14 : decode c_J_indexOfChar 14 = .ok (.iload 5, 2) := by decide +kernel
theorem d_J_indexOfChar_16 : decode c_J_indexOfChar 16 = .ok (.baload, 1) := by decide +kernel
theorem d_J_indexOfChar_17 : decode c_J_indexOfChar 17 = .ok (.iload 4, 2) := by decide +kernel
theorem d_J_indexOfChar_19 : decode c_J_indexOfChar 19 = .ok (.if_icmp .ne 6, 3) := by decide +kernel
theorem d_J_indexOfChar_22 : decode c_J_indexOfChar 22 = .ok (.iload 5, 2) := by decide +kernel
theorem d_J_indexOfChar_24 : decode c_J_indexOfChar 24 = .ok (.ireturn, 1) := by decide +kernel
theorem d_J_indexOfChar_25 : decode c_J_indexOfChar 25 = .ok (.iinc 5 1, 3) := by decide +kernel
theorem d_J_indexOfChar_28 : decode c_J_indexOfChar 28 = .ok (.goto (-21), 3) := by decide +kernel
theorem d_J_indexOfChar_31 : decode c_J_indexOfChar 31 = .ok (.iconst (-1), 1) := by decide +kernel
theorem d_J_indexOfChar_32 : decode c_J_indexOfChar 32 = .ok (.ireturn, 1) := by decide +kernel
theorem d_J_canEncode_0 : decode c_J_canEncode 0 = .ok (.iload_n 0, 1) := by decide +kernel
theorem d_J_canEncode_1 : decode c_J_canEncode 1 = .ok (.ifCond .lt 14, 3) := by decide +kernel
theorem d_J_canEncode_4 : decode c_J_canEncode 4 = .ok (.iload_n 0, 1) := by decide +kernel
theorem d_J_canEncode_5 : decode c_J_canEncode 5 = .ok (.sipush 255, 3) := by decide +kernel
theorem d_J_canEncode_8 : decode c_J_canEncode 8 = .ok (.if_icmp .gt 7, 3) := by decide +kernel
theorem d_J_canEncode_11 : decode c_J_canEncode 11 = .ok (.iconst 1, 1) := by decide +kernel
theorem d_J_canEncode_12 : decode c_J_canEncode 12 = .ok (.goto 4, 3) := by decide +kernel
theorem d_J_canEncode_15 : decode c_J_canEncode 15 = .ok (.iconst 0, 1) := by decide +kernel
theorem d_J_canEncode_16 : decode c_J_canEncode 16 = .ok (.ireturn, 1) := by decide +kernel
theorem d_H_max_0 : decode c_H_max 0 = .ok (.iload_n 0, 1) := by decide +kernel
theorem d_H_max_1 : decode c_H_max 1 = .ok (.iload_n 1, 1) := by decide +kernel
theorem d_H_max_2 : decode c_H_max 2 = .ok (.if_icmp .lt 7, 3) := by decide +kernel
theorem d_H_max_5 : decode c_H_max 5 = .ok (.iload_n 0, 1) := by decide +kernel
theorem d_H_max_6 : decode c_H_max 6 = .ok (.goto 4, 3) := by decide +kernel
theorem d_H_max_9 : decode c_H_max 9 = .ok (.iload_n 1, 1) := by decide +kernel
theorem d_H_max_10 : decode c_H_max 10 = .ok (.ireturn, 1) := by decide +kernel
theorem d_H_min_0 : decode c_H_min 0 = .ok (.iload_n 0, 1) := by decide +kernel
theorem d_H_min_1 : decode c_H_min 1 = .ok (.iload_n 1, 1) := by decide +kernel
theorem d_H_min_2 : decode c_H_min 2 = .ok (.if_icmp .gt 7, 3) := by decide +kernel
theorem d_H_min_5 : decode c_H_min 5 = .ok (.iload_n 0, 1) := by decide +kernel
theorem d_H_min_6 : decode c_H_min 6 = .ok (.goto 4, 3) := by decide +kernel
theorem d_H_min_9 : decode c_H_min 9 = .ok (.iload_n 1, 1) := by decide +kernel
theorem d_H_min_10 : decode c_H_min 10 = .ok (.ireturn, 1) := by decide +kernel
theorem d_K_checkIndex_0 : decode c_K_checkIndex 0 = .ok (.iload_n 0, 1) := by decide +kernel
theorem d_K_checkIndex_1 : decode c_K_checkIndex 1 = .ok (.ifCond .lt 8, 3) := by decide +kernel
theorem d_K_checkIndex_4 : decode c_K_checkIndex 4 = .ok (.iload_n 0, 1) := by decide +kernel
theorem d_K_checkIndex_5 : decode c_K_checkIndex 5 = .ok (.iload_n 1, 1) := by decide +kernel
theorem d_K_checkIndex_6 : decode c_K_checkIndex 6 = .ok (.if_icmp .lt 10, 3) := by decide +kernel
theorem d_K_checkIndex_9 : decode c_K_checkIndex 9 = .ok (.aload_n 2, 1) := by decide +kernel
theorem d_K_checkIndex_10 : decode c_K_checkIndex 10 = .ok (.iload_n 0, 1) := by decide +kernel
theorem d_K_checkIndex_11 : decode c_K_checkIndex 11 = .ok (.iload_n 1, 1) := by decide +kernel
theorem d_K_checkIndex_12 : decode c_K_checkIndex 12 = .ok (.invokestatic 95, 3) := by decide +kernel
theorem d_K_checkIndex_15 : decode c_K_checkIndex 15 = .ok (.athrow, 1) := by decide +kernel
theorem d_K_checkIndex_16 : decode c_K_checkIndex 16 = .ok (.iload_n 0, 1) := by decide +kernel
theorem d_K_checkIndex_17 : decode c_K_checkIndex 17 = .ok (.ireturn, 1) := by decide +kernel
